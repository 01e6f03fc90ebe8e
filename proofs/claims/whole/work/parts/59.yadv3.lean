/-! the reference's side: the step of a list on top -/
section
variable {g : mG} {V : Nat → Prop} {Z : Nat → Nat} {pa : Nat → Option Nat} {T : Nat} {h_count h_open h_types : Int32} {c_sort c_op c_na c_nb c_up c_val c_size c_params c_parent : Nat → Int32} {s : St} {oc ret xt xv xy xp ha exi v : Int32} {be : Nat} {gv gh : Nat → Int32} {c_node c_got c_handle c_pTarget c_pPlace c_act c_mode c_bVar c_pType c_v0 c_v1 c_v2 c_last c_bVal c_pVal : Nat → Int32} {l r : List Fr} {f : Fr} {P : SY → Prop} {post : Int32 → SY → Prop} {N i p q : Nat}
/-- a list goes on, no value having come -/
theorem y_adv0 (G : g_w g V Z pa T) (Yt : yT g V h_count h_open h_types c_sort c_op c_na c_nb c_up c_val c_size c_params c_parent) {nd ev ph gt bv ty sr : Nat} {rm : List Nat} {x0 x1 x2 la bx dt pl : Int32} {sc : List (Nat × Nat × Nat)} {tg : Option Nat} (F : w_f g V Z pa 0 ((nd, ev, ph, rm), (gt, x0, x1, x2), (la, bv, bx, ty), dt, sc, sr, tg, pl) r) (W : w_l g V Z pa 1 r) (hph : ph = 0 ∨ ph = 1 ∨ ph = 3) (hfw : gO g nd = 10 → ph = 0 ∧ gt = 0 ∧ 1 ≤ sBe s) (hfr : m_fc r ≤ gD g) (hs : w_s g s) (hpr : sPr s < 1000000) (hg : yGl gv gh (sGl s)) (Y : yL g c_node c_got c_handle c_pTarget c_pPlace c_act c_mode c_bVar c_pType c_v0 c_v1 c_v2 c_last c_bVal c_pVal (((nd, ev, ph, rm), (gt, x0, x1, x2), (la, bv, bx, ty), dt, sc, sr, tg, pl) :: r)) (hbe : be + (if gO g nd = 10 then 1 else 0) = sBe s) (h9 : gO g nd = 9 → gt ≠ 1) (h : ∀ u', yQ g V h_count h_open h_types c_sort c_op c_na c_nb c_up c_val c_size c_params c_parent (m_pro g ((nd, ev, ph, rm), (gt, x0, x1, x2), (la, bv, bx, ty), dt, sc, sr, tg, pl) r s) u' → P u') : wpY_step P (yU g h_count h_open h_types c_sort c_op c_na c_nb c_up c_val c_size c_params c_parent (y_z0 oc) 1 be s (m_yh r + 1) ret xt xv xy xp 0 0 gv gh c_node c_got c_handle c_pTarget c_pPlace c_act c_mode c_bVar c_pType c_v0 c_v1 c_v2 c_last c_bVal c_pVal) := by
  have f1 : V nd := F.1
  have n4 := (G.1 nd f1).2.2.2.1
  have hlk := F.2.2.1
  have hO : gO g nd ≤ 26 := w_lsO hlk (by show ph ≠ 8; omega)
  have hop := ((Yt.1 nd f1).2.2.1 hO).2
  have h5 : m_yh r ≤ 518 := y_len (F.2.2.2.2.2.2.2.2.1 (by show ph ≠ 7; omega)) (G.1 nd f1).2.1
  have hk : m_yh r < 520 := by omega
  have YA := (yF_A (f := ((nd, ev, ph, rm), (gt, x0, x1, x2), (la, bv, bx, ty), dt, sc, sr, tg, pl)) (by show ph ≠ 7; omega) (by show ph ≠ 4; omega) (by show ph ≠ 8; omega)).mp Y.1
  have Yr := Y.2
  have a1 := YA.1
  refine br_t rfl ?_
  refine br_f (xx_ne (a := m_yh r + 1) (b := 0) (by omega) (by omega) (by decide)) ?_
  rw [show (nI (m_yh r + 1) - 1 : Int32) = nI (m_yh r) from nI_pred _]
  refine ⟨vp_in_nI hk (by decide), ?_⟩
  rw [nI_clamp (by omega), a1]
  refine br_t (nI_pos' (by omega)) ?_
  unfold wpY_advance
  dsimp only
  refine ⟨vp_in_nI hk (by decide), ?_⟩
  rw [nI_clamp (by omega), a1]
  refine nm_e ?_
  refine xx_n n4 ?_
  rw [hop]
  refine Yt.2.1 nd f1 _ _ _ _ _ _ _ _ _ _ _ _ _ _ _ _ _ _ _ _ _ _ _ _ _ _ _ _ _ _ _ _ _ _ _ _ _ _ _ ?_
  refine br_t rfl ?_
  by_cases o10 : gO g nd = 10
  · obtain ⟨z1, z2, z3⟩ := hfw o10
    rw [if_pos o10] at hbe
    subst z1 z2
    have hl1 := fo_lst (k := 1) (G.1 nd f1) hO (by rw [o10]; rfl)
    have hF : gF g ≤ 200 := G.2.2.2.2.2.2.1
    refine xx_n hk ?_
    rw [YA.2.2.1, o10]
    refine br_f (by decide) (br_t rfl ?_)
    refine br_t rfl ?_
    refine y_beat (by have := hs.1; omega) hF (fun z => ?_) (fun z => by have := hs.1; omega)
    refine br_f (by decide) ?_
    rw [hbe]
    refine Yt.2.2.1 nd f1 0 (by decide) _ _ _ _ _ _ _ _ _ _ _ _ _ _ _ _ _ _ _ _ _ _ _ _ _ _ _ _ _ _ _ _ _ _ _ _ _ _ _ ?_
    refine ⟨vp_in_nI hk (by decide), ?_⟩
    rw [nI_clamp (by omega), YA.2.1]
    have hrm : rm = gK g nd := by
      rcases hlk with h | h | h | h | h | h | h | h | h | h
      · exact h.2.2.2.2.2.1
      all_goals omega
    cases hK : gK g nd with
    | nil => rw [hK] at hl1; exact absurd hl1 (by decide)
    | cons c cs =>
      subst hrm
      rw [hK] at F YA h
      exact y_nxt G Yt F W hs hg YA Yr h
  · rw [if_neg o10] at hbe
    have hbe : be = sBe s := hbe
    subst hbe
    refine y_150 G Yt F W (by omega) hfr hs hpr hg ?_ Yr (fun z1 z2 => absurd z2 (h9 z1)) (fun z => absurd z o10) h
    obtain ⟨b1, b2, b3, b4, b5, b6⟩ := YA
    exact ⟨b1, b2, b3, b4, fun _ => b5 trivial, b6⟩
/-- the arrays of a list to which a value came -/
def y_t (a : Nat → Int32) (k gt j : Nat) (v : Int32) : Nat → Int32 := if gt = j then upd a k v else a
theorem y_t_k {a : Nat → Int32} {k gt j : Nat} {v : Int32} : y_t a k gt j v k = if gt = j then v else a k := by
  unfold y_t
  split
  · exact pk_us
  · rfl
theorem y_t_e {a : Nat → Int32} {k gt j : Nat} {v : Int32} : yE k (y_t a k gt j v) a := by
  unfold y_t
  split
  · exact yE_u yE_r (Nat.le_refl _)
  · exact yE_r
/-- a list goes on with the value that came -/
theorem y_advh (G : g_w g V Z pa T) (Yt : yT g V h_count h_open h_types c_sort c_op c_na c_nb c_up c_val c_size c_params c_parent) {nd ev ph gt bv ty sr : Nat} {rm : List Nat} {x0 x1 x2 la bx dt pl : Int32} {sc : List (Nat × Nat × Nat)} {tg : Option Nat} (F : w_f g V Z pa 1 ((nd, ev, ph, rm), (gt, x0, x1, x2), (la, bv, bx, ty), dt, sc, sr, tg, pl) r) (W : w_l g V Z pa 1 r) (h4 : ph ≠ 4) (h7 : ph ≠ 7) (h8 : ph ≠ 8) (hfr : m_fc r ≤ gD g) (hs : w_s g s) (hpr : sPr s < 1000000) (hg : yGl gv gh (sGl s)) (Y : yL g c_node c_got c_handle c_pTarget c_pPlace c_act c_mode c_bVar c_pType c_v0 c_v1 c_v2 c_last c_bVal c_pVal (((nd, ev, ph, rm), (gt, x0, x1, x2), (la, bv, bx, ty), dt, sc, sr, tg, pl) :: r)) (h : ∀ u', yQ g V h_count h_open h_types c_sort c_op c_na c_nb c_up c_val c_size c_params c_parent (m_step g (1, v, none, 0, 0, ((nd, ev, ph, rm), (gt, x0, x1, x2), (la, bv, bx, ty), dt, sc, sr, tg, pl) :: r, s)) u' → P u') : wpY_step P (yU g h_count h_open h_types c_sort c_op c_na c_nb c_up c_val c_size c_params c_parent (y_z0 oc) 1 (sBe s) s (m_yh r + 1) v xt xv xy xp 1 0 gv gh c_node c_got c_handle c_pTarget c_pPlace c_act c_mode c_bVar c_pType c_v0 c_v1 c_v2 c_last c_bVal c_pVal) := by
  have f1 : V nd := F.1
  have n4 := (G.1 nd f1).2.2.2.1
  have hlk := F.2.2.1
  have hO : gO g nd ≤ 26 := w_lsO hlk h8
  have hop := ((Yt.1 nd f1).2.2.1 hO).2
  have h5 : m_yh r ≤ 518 := y_len (F.2.2.2.2.2.2.2.2.1 h7) (G.1 nd f1).2.1
  have hk : m_yh r < 520 := by omega
  have hph : ph < 9 := by
    rcases hlk with h | h | h | h | h | h | h | h | h | h <;> omega
  have hgt : gt ≤ 56 := by
    have hKl := (w_ks G (n := nd) f1).2.1
    rcases hlk with h | h | h | h | h | h | h | h | h | h
    · have := h.2.2.2.2.2.2.1
      omega
    · obtain ⟨_, _, z⟩ := h
      rcases z with z | z | z <;> omega
    · have := h.2.2.2.2
      omega
    · have := h.2.2.2.1
      omega
    · have := h.2.2.2.2
      omega
    · omega
    · omega
    · exact h.2.2.2 rfl
    · omega
    · omega
  have YA := (yF_A (f := ((nd, ev, ph, rm), (gt, x0, x1, x2), (la, bv, bx, ty), dt, sc, sr, tg, pl)) h7 h4 h8).mp Y.1
  have Yr := Y.2
  have a1 := YA.1
  have a3 := YA.2.2.1
  have a4 := YA.2.2.2.1
  have hst : m_step g (1, v, none, 0, 0, ((nd, ev, ph, rm), (gt, x0, x1, x2), (la, bv, bx, ty), dt, sc, sr, tg, pl) :: r, s) = (if ph = 4 ∨ ph = 8 then (2, 0, none, 0, 0, ((nd, ev, ph, rm), (gt, x0, x1, x2), (la, bv, bx, ty), dt, sc, sr, tg, pl) :: r, s)
    else if ph = 0 ∧ gO g nd = 10 ∧ v = 0 then m_dlv r 0 s
    else m_pro g (m_take g ((nd, ev, ph, rm), (gt, x0, x1, x2), (la, bv, bx, ty), dt, sc, sr, tg, pl) v) r s) := rfl
  rw [hst, if_neg (by omega)] at h
  refine br_t rfl ?_
  refine br_f (xx_ne (a := m_yh r + 1) (b := 0) (by omega) (by omega) (by decide)) ?_
  rw [show (nI (m_yh r + 1) - 1 : Int32) = nI (m_yh r) from nI_pred _]
  refine ⟨vp_in_nI hk (by decide), ?_⟩
  rw [nI_clamp (by omega), a1]
  refine br_t (nI_pos' (by omega)) ?_
  unfold wpY_advance
  dsimp only
  refine ⟨vp_in_nI hk (by decide), ?_⟩
  rw [nI_clamp (by omega), a1]
  refine nm_e ?_
  refine xx_n n4 ?_
  rw [hop]
  refine Yt.2.1 nd f1 _ _ _ _ _ _ _ _ _ _ _ _ _ _ _ _ _ _ _ _ _ _ _ _ _ _ _ _ _ _ _ _ _ _ _ _ _ _ _ ?_
  refine br_f (show ¬ (1 : Int32) = 0 by decide) ?_
  refine ⟨vp_in_nI hk (by decide), nm_e ?_⟩
  have TAIL : wY_advance_102 P (nI (m_yh r)) (nI nd) (nI (gO g nd)) (nI (gK g nd).length) (nI (gD g)) (nI (gF g)) h_count h_open h_types (nI (m_yh r + 1)) v xt xv xy xp 0 0 1 ((y_z0 oc).1) ((y_z0 oc).2.1) ((y_z0 oc).2.2.1) ((y_z0 oc).2.2.2.1) ((y_z0 oc).2.2.2.2) (nI (sBe s)) (nI (sPr s)) c_sort c_op c_na c_nb c_up c_val c_size c_params c_parent gv (sCe s) (sLo s) gh c_node c_got c_handle c_pTarget c_pPlace c_act c_mode c_bVar c_pType (y_t c_v0 (m_yh r) gt 0 v) (y_t c_v1 (m_yh r) gt 1 v) (y_t c_v2 (m_yh r) gt 2 v) (upd c_last (m_yh r) v) c_bVal c_pVal (sOu s) := by
    refine ⟨vp_in_nI hk (by decide), ?_⟩
    rw [nI_clamp (n := m_yh r) (by omega), a3, nI_1]
    refine ⟨vp_in_nI hk (by decide), nm_r (congrArg (upd c_got (m_yh r)) (fb_short (by omega))) ?_⟩
    refine ⟨vp_in_nI hk (by decide), ?_⟩
    rw [a4]
    have YrT : yL g c_node (upd c_got (m_yh r) (nI (gt + 1))) c_handle c_pTarget c_pPlace c_act c_mode c_bVar c_pType (y_t c_v0 (m_yh r) gt 0 v) (y_t c_v1 (m_yh r) gt 1 v) (y_t c_v2 (m_yh r) gt 2 v) (upd c_last (m_yh r) v) c_bVal c_pVal r := yL_keep W Yr yE_r (yE_u yE_r (Nat.le_refl _)) yE_r yE_r yE_r yE_r yE_r yE_r yE_r y_t_e y_t_e y_t_e (yE_u yE_r (Nat.le_refl _)) yE_r yE_r
    obtain ⟨d1, d2, d3, d4, d5⟩ := w_take (v := v) G F h4 h8
    have DN : m_pro g (m_take g ((nd, ev, ph, rm), (gt, x0, x1, x2), (la, bv, bx, ty), dt, sc, sr, tg, pl) v) r s = m_dlv r v s → ph ≠ 0 → wY_advance_141 P (nI (gD g)) (nI (gF g)) h_count h_open h_types (nI (m_yh r + 1)) v xt xv xy xp 0 0 1 ((y_z0 oc).1) ((y_z0 oc).2.1) ((y_z0 oc).2.2.1) ((y_z0 oc).2.2.2.1) ((y_z0 oc).2.2.2.2) (nI (sBe s)) (nI (sPr s)) c_sort c_op c_na c_nb c_up c_val c_size c_params c_parent gv (sCe s) (sLo s) gh c_node (upd c_got (m_yh r) (nI (gt + 1))) c_handle c_pTarget c_pPlace c_act c_mode c_bVar c_pType (y_t c_v0 (m_yh r) gt 0 v) (y_t c_v1 (m_yh r) gt 1 v) (y_t c_v2 (m_yh r) gt 2 v) (upd c_last (m_yh r) v) c_bVal c_pVal (sOu s) := by
      intro e z0
      rw [if_neg (fun z => z0 z.1), e] at h
      exact y_done (m_yh r) (h _ (y_dlv hg YrT))
    by_cases p0 : ph = 0
    · subst p0
      rw [if_neg (by omega)]
      refine br_f (by decide) ?_
      have hb : bv = 0 := by
        rcases F.2.2.2.1 with z | ⟨_, _, z⟩
        · exact z
        · rcases z with ⟨z, _⟩ | z | z <;> cases z
      subst hb
      have f3 : (gO g nd ≤ 26 ∧ gO g nd ≠ 7 ∧ gO g nd ≠ 11 ∧ ¬ (16 ≤ gO g nd ∧ gO g nd ≤ 18) ∧ rm = (gK g nd).drop (gt + 1) ∧ gt + 1 ≤ (gK g nd).length ∧ (gO g nd = 6 ∨ gO g nd = 9 ∨ gO g nd = 10 ∨ gO g nd = 13 ∨ gO g nd = 15 → gt = 0)) := by
        rcases hlk with h | h | h | h | h | h | h | h | h | h
        · exact h.2
        all_goals omega
      obtain ⟨_, _, _, _, _, k6, k7⟩ := f3
      have e : m_take g ((nd, ev, 0, rm), (gt, x0, x1, x2), (la, 0, bx, ty), dt, sc, sr, tg, pl) v = (if gO g nd = 6 then ((nd, ev, 1, [(gK g nd).getD (if v = 0 then 2 else 1) 0]), (gt + 1, v, x1, x2), (0, 0, bx, ty), dt, sc, sr, tg, pl)
        else if gO g nd = 10 then ((nd, ev, 1, rm), (gt + 1, x0, x1, x2), (0, 0, bx, ty), dt, sc, sr, tg, pl)
        else if gO g nd = 9 then ((nd, ev, 1, rm), (gt + 1, v, x1, x2), (0, gA g nd, v, ty), dt, sc, sr, tg, pl)
        else if gO g nd = 13 then ((nd, ev, 1, rm), (gt + 1, v, x1, x2), (0, 0, bx, ty), dt, sc, sr, tg, pl)
        else if gO g nd = 15 then ((nd, ev, 2, rm), (gt + 1, v, x1, x2), (la, 0, bx, ty), dt, sc, sr, tg, pl)
        else ((nd, ev, 0, rm), (gt + 1, (if gt = 0 then v else x0), (if gt = 1 then v else x1), (if gt = 2 then v else x2)), (la, 0, bx, ty), dt, sc, sr, tg, pl)) := rfl
      by_cases ow : gO g nd = 10 ∧ v = 0
      · rw [if_pos ⟨rfl, ow.1, ow.2⟩] at h
        have hg0 := k7 (by omega)
        subst hg0
        refine xx_n hk ?_
        rw [pk_us, ow.1]
        refine br_f (by decide) (br_t rfl ?_)
        refine br_f (by decide) (br_t rfl ⟨vp_in_nI hk (by decide), ?_⟩)
        rw [nI_clamp (by omega), pk_us]
        refine br_t ow.2 ?_
        exact y_done (m_yh r) (h _ (y_dlv hg YrT))
      · rw [if_neg (fun z => ow z.2)] at h
        rw [e] at h d1
        obtain ⟨b1, b2, b3, b4, b5, b6, b7, b8, b9, b10, b11⟩ := YA
        have bb := b5 trivial
        by_cases o6 : gO g nd = 6
        · rw [if_pos o6] at h d1
          have hg0 := k7 (by omega)
          subst hg0
          refine y_150 G Yt d1 W (by decide) hfr hs hpr hg ⟨b1, b2, pk_us, b4, fun _ => bb, fun _ _ => ?_, fun z => (by cases z), fun z => (by cases z), fun _ z => ?_, fun _ z => by omega, fun z => (by cases z)⟩ YrT (fun z => by omega) (fun z => by omega) h
          · rw [y_t_k, if_pos rfl]
          · omega
        · rw [if_neg o6] at h d1
          by_cases o10 : gO g nd = 10
          · rw [if_pos o10] at h d1
            have hg0 := k7 (by omega)
            subst hg0
            refine y_150 G Yt d1 W (by decide) hfr hs hpr hg ⟨b1, b2, pk_us, b4, fun _ => bb, fun z => by omega, fun z => (by cases z), fun z => (by cases z), fun _ z => ?_, fun _ z => by omega, fun z => (by cases z)⟩ YrT (fun z => by omega) (fun _ => ⟨rfl, fun _ => ?_⟩) h
            · omega
            · rw [pk_us]
              exact fun z => ow ⟨o10, z⟩
          · rw [if_neg o10] at h d1
            by_cases o9 : gO g nd = 9
            · rw [if_pos o9] at h d1
              have hg0 := k7 (by omega)
              subst hg0
              have ha := ((G.1 nd f1).2.2.2.2.2.2.2.2.1 hO).2.1 (Or.inl o9)
              refine y_150 G Yt d1 W (by decide) hfr hs hpr hg ⟨b1, b2, pk_us, b4, fun z => absurd ⟨o9, rfl⟩ z, fun _ _ => ?_, fun z => (by cases z), fun z => (by cases z), fun _ z => ?_, fun _ _ _ => rfl, fun z => (by cases z)⟩ YrT (fun _ _ => ⟨rfl, rfl, ha.1, ha.2⟩) (fun z => by omega) h
              · rw [y_t_k, if_pos rfl]
              · omega
            · rw [if_neg o9] at h d1
              by_cases o13 : gO g nd = 13
              · rw [if_pos o13] at h d1
                have hg0 := k7 (by omega)
                subst hg0
                refine y_150 G Yt d1 W (by decide) hfr hs hpr hg ⟨b1, b2, pk_us, b4, fun _ => bb, fun _ _ => ?_, fun z => (by cases z), fun z => (by cases z), fun _ z => ?_, fun _ _ _ => rfl, fun z => (by cases z)⟩ YrT (fun z => by omega) (fun z => by omega) h
                · rw [y_t_k, if_pos rfl]
                · omega
              · rw [if_neg o13] at h d1
                by_cases o15 : gO g nd = 15
                · rw [if_pos o15] at h d1
                  have hg0 := k7 (by omega)
                  subst hg0
                  refine y_150 G Yt d1 W (by decide) hfr hs hpr hg ⟨b1, b2, pk_us, b4, fun _ => bb, fun _ _ => ?_, fun z => (by cases z), fun z => (by cases z), fun z => (by cases z), fun z => (by cases z), fun z => (by cases z)⟩ YrT (fun z => by omega) (fun z => by omega) h
                  rw [y_t_k, if_pos rfl]
                · rw [if_neg o15] at h d1
                  refine y_150 G Yt d1 W (by decide) hfr hs hpr hg ⟨b1, b2, pk_us, b4, fun _ => bb, fun _ _ => ?_, fun _ z => ?_, fun _ z => ?_, fun z => (by cases z), fun z => (by cases z), fun z => (by cases z)⟩ YrT (fun z => by omega) (fun z => by omega) h
                  · rw [y_t_k]
                    by_cases z : gt = 0
                    · rw [if_pos z, if_pos z]
                    · rw [if_neg z, if_neg z]; exact b6 (Or.inl rfl) (by omega)
                  · rw [y_t_k]
                    by_cases z : gt = 1
                    · rw [if_pos z, if_pos z]
                    · rw [if_neg z, if_neg z]; exact b7 rfl (by omega)
                  · rw [y_t_k]
                    by_cases z : gt = 2
                    · rw [if_pos z, if_pos z]
                    · rw [if_neg z, if_neg z]; exact b8 rfl (by omega)
    · have e : m_take g ((nd, ev, ph, rm), (gt, x0, x1, x2), (la, bv, bx, ty), dt, sc, sr, tg, pl) v = ((nd, ev, ph, rm), (gt + 1, x0, x1, x2), (v, bv, bx, ty), dt, sc, sr, tg, pl) := by
        cases ph with
        | zero => exact absurd rfl p0
        | succ k => rfl
      by_cases p5 : ph = 5 ∨ ph = 6
      · rw [if_pos (by omega)]
        refine br_t rfl ?_
        have hrm : rm = [] := by
          rcases hlk with h | h | h | h | h | h | h | h | h | h
          · omega
          · omega
          · omega
          · omega
          · omega
          · omega
          · exact h.2.2.1
          · exact h.2.2.1
          · omega
          · omega
        have hop2 : (ph = 5 → gO g nd = 17 ∨ gO g nd = 18) ∧ (ph = 6 → gO g nd = 23) := by
          rcases hlk with h | h | h | h | h | h | h | h | h | h <;> omega
        have e0 : m_pro g (m_take g ((nd, ev, ph, rm), (gt, x0, x1, x2), (la, bv, bx, ty), dt, sc, sr, tg, pl) v) r s = m_dlv r v s := by
          rw [e]
          subst hrm
          rcases p5 with rfl | rfl
          · rfl
          · rfl
        refine fb_if (nI_eq (b := 17) (by omega) (by decide)) (fun z => DN e0 p0) (fun z => ?_)
        refine fb_if (nI_eq (b := 18) (by omega) (by decide)) (fun z2 => DN e0 p0) (fun z2 => ?_)
        exact br_t (by rw [hop2.2 (by omega)]; rfl) (DN e0 p0)
      · have hp3 : ph < 4 := by omega
        rw [if_neg (fun z => p0 z.1), e] at h
        rw [e] at d1
        have G150 : wY_advance_150 P (nI (m_yh r)) (nI nd) (nI (gO g nd)) (nI (gK g nd).length) (nI (gD g)) (nI (gF g)) h_count h_open h_types (nI (m_yh r + 1)) v xt xv xy xp 0 0 1 ((y_z0 oc).1) ((y_z0 oc).2.1) ((y_z0 oc).2.2.1) ((y_z0 oc).2.2.2.1) ((y_z0 oc).2.2.2.2) (nI (sBe s)) (nI (sPr s)) c_sort c_op c_na c_nb c_up c_val c_size c_params c_parent gv (sCe s) (sLo s) gh c_node (upd c_got (m_yh r) (nI (gt + 1))) c_handle c_pTarget c_pPlace c_act c_mode c_bVar c_pType (y_t c_v0 (m_yh r) gt 0 v) (y_t c_v1 (m_yh r) gt 1 v) (y_t c_v2 (m_yh r) gt 2 v) (upd c_last (m_yh r) v) c_bVal c_pVal (sOu s) := by
          have wk : (gO g nd = 9 ∨ gO g nd = 13 ∨ gO g nd = 6 ∨ gO g nd = 10 → ph = 1 ∧ 1 ≤ gt) ∧ (ph = 2 → 1 ≤ gt) := by
            rcases hlk with h | h | h | h | h | h | h | h | h | h
            · omega
            · obtain ⟨_, _, z⟩ := h
              rcases z with z | z | z <;> omega
            · omega
            · have := h.2.2.2.2
              omega
            all_goals omega
          obtain ⟨b1, b2, b3, b4, b5, b6, b7, b8, b9, b10, b11⟩ := YA
          refine y_150 G Yt d1 W hp3 hfr hs hpr hg ⟨b1, b2, pk_us, b4, fun _ => b5 trivial, fun z _ => ?_, fun z => absurd z p0, fun z => absurd z p0, fun _ _ => pk_us, fun _ z z2 => ?_, b11⟩ YrT (fun z z2 => ?_) (fun z => ⟨?_, fun z2 => ?_⟩) h
          · have z2 : 1 ≤ gt := by
              rcases z with z | z | ⟨z, y⟩
              · omega
              · exact wk.2 z
              · exact (wk.1 (by omega)).2
            rw [y_t_k, if_neg (by omega)]
            exact b6 z (by omega)
          · have := (wk.1 (by omega)).2
            omega
          · have := (wk.1 (by omega)).2
            omega
          · exact (wk.1 (by omega)).1
          · have := (wk.1 (by omega)).2
            omega
        by_cases p3 : ph = 3
        · rw [if_pos (Or.inl p3)]
          have o15 : gO g nd = 15 := by
            rcases hlk with h | h | h | h | h | h | h | h | h | h <;> omega
          refine br_t rfl ?_
          rw [o15] at G150 ⊢
          refine br_f (by decide) (br_f (by decide) (br_f (by decide) G150))
        · rw [if_neg (by omega)]
          exact br_f (by decide) G150
  refine ⟨vp_in_nI hk (by decide), ?_⟩
  rw [a3]
  have T2 : ∀ {b0 b1 : Nat → Int32}, b0 = y_t c_v0 (m_yh r) gt 0 v → b1 = y_t c_v1 (m_yh r) gt 1 v → wY_advance_82 P (nI (m_yh r)) (nI nd) (nI (gO g nd)) (nI (gK g nd).length) (nI (gD g)) (nI (gF g)) h_count h_open h_types (nI (m_yh r + 1)) v xt xv xy xp 0 0 1 ((y_z0 oc).1) ((y_z0 oc).2.1) ((y_z0 oc).2.2.1) ((y_z0 oc).2.2.2.1) ((y_z0 oc).2.2.2.2) (nI (sBe s)) (nI (sPr s)) c_sort c_op c_na c_nb c_up c_val c_size c_params c_parent gv (sCe s) (sLo s) gh c_node c_got c_handle c_pTarget c_pPlace c_act c_mode c_bVar c_pType b0 b1 c_v2 (upd c_last (m_yh r) v) c_bVal c_pVal (sOu s) := by
    intro b0 b1 e0 e1
    subst e0 e1
    refine ⟨vp_in_nI hk (by decide), ?_⟩
    rw [nI_clamp (by omega), a3]
    unfold y_t at TAIL ⊢
    refine fb_if (nI_eq (b := 2) (by omega) (by decide)) (fun z => ?_) (fun z => ?_)
    · rw [if_pos z] at TAIL
      exact ⟨vp_in_nI hk (by decide), nm_e TAIL⟩
    · rw [if_neg z] at TAIL
      exact TAIL
  have T1 : ∀ {b0 : Nat → Int32}, b0 = y_t c_v0 (m_yh r) gt 0 v → wY_advance_62 P (nI (m_yh r)) (nI nd) (nI (gO g nd)) (nI (gK g nd).length) (nI (gD g)) (nI (gF g)) h_count h_open h_types (nI (m_yh r + 1)) v xt xv xy xp 0 0 1 ((y_z0 oc).1) ((y_z0 oc).2.1) ((y_z0 oc).2.2.1) ((y_z0 oc).2.2.2.1) ((y_z0 oc).2.2.2.2) (nI (sBe s)) (nI (sPr s)) c_sort c_op c_na c_nb c_up c_val c_size c_params c_parent gv (sCe s) (sLo s) gh c_node c_got c_handle c_pTarget c_pPlace c_act c_mode c_bVar c_pType b0 c_v1 c_v2 (upd c_last (m_yh r) v) c_bVal c_pVal (sOu s) := by
    intro b0 e0
    refine ⟨vp_in_nI hk (by decide), ?_⟩
    rw [nI_clamp (by omega), a3]
    refine fb_if (nI_eq (b := 1) (by omega) (by decide)) (fun z => ?_) (fun z => ?_)
    · exact ⟨vp_in_nI hk (by decide), nm_e (T2 e0 (by unfold y_t; rw [if_pos z]))⟩
    · exact T2 e0 (by unfold y_t; rw [if_neg z])
  refine fb_if (nI_eq (b := 0) (by omega) (by decide)) (fun z => ?_) (fun z => ?_)
  · exact ⟨vp_in_nI hk (by decide), nm_e (T1 (by unfold y_t; rw [if_pos z]))⟩
  · exact T1 (by unfold y_t; rw [if_neg z])
end
