/-! the reference's side: going on with a list, all kinds -/
section
variable {g : mG} {V : Nat → Prop} {Z : Nat → Nat} {pa : Nat → Option Nat} {T : Nat} {h_count h_open h_types : Int32} {c_sort c_op c_na c_nb c_up c_val c_size c_params c_parent : Nat → Int32} {s : St} {oc ret xt xv xy xp ha exi v : Int32} {be : Nat} {gv gh : Nat → Int32} {c_node c_got c_handle c_pTarget c_pPlace c_act c_mode c_bVar c_pType c_v0 c_v1 c_v2 c_last c_bVal c_pVal : Nat → Int32} {l r : List Fr} {f : Fr} {P : SY → Prop} {post : Int32 → SY → Prop} {N i p q : Nat}
/-- what the kind of a list in hand says of it -/
theorem w_kinds {nd ev ph gt bv ty sr : Nat} {rm : List Nat} {x0 x1 x2 la bx dt pl : Int32} {sc : List (Nat × Nat × Nat)} {tg : Option Nat} (F : w_lk g 0 ((nd, ev, ph, rm), (gt, x0, x1, x2), (la, bv, bx, ty), dt, sc, sr, tg, pl)) (hph : ph < 4) : gO g nd ≤ 26 ∧ (gO g nd = 6 → (ph = 0 ∧ gt = 0 ∧ rm = gK g nd) ∨ (ph = 1 ∧ gt = 1 ∧ ∃ j, (j = 1 ∨ j = 2) ∧ rm = [(gK g nd).getD j 0] ∧ (j = 2 → x0 = 0) ∧ (j = 1 → x0 ≠ 0)) ∨ (ph = 1 ∧ gt = 2 ∧ rm = [])) ∧ (16 ≤ gO g nd ∧ gO g nd ≤ 18 → ph = 1 ∧ rm = (gK g nd).drop (gt + 1) ∧ gt + 1 ≤ (gK g nd).length) ∧ (gO g nd ≠ 6 → ¬ (16 ≤ gO g nd ∧ gO g nd ≤ 18) → rm = (gK g nd).drop gt ∧ gt ≤ (gK g nd).length) ∧ (gO g nd = 7 ∨ gO g nd = 11 → ph = 1) ∧ (gO g nd = 9 ∨ gO g nd = 13 ∨ gO g nd = 10 → (ph = 0 ∧ gt = 0) ∨ (ph = 1 ∧ 1 ≤ gt)) ∧ (gO g nd = 15 → (ph = 0 ∧ gt = 0) ∨ ph = 2 ∨ ph = 3) ∧ (gO g nd ≠ 6 → gO g nd ≠ 7 → gO g nd ≠ 9 → gO g nd ≠ 10 → gO g nd ≠ 11 → gO g nd ≠ 13 → gO g nd ≠ 15 → ¬ (16 ≤ gO g nd ∧ gO g nd ≤ 18) → ph = 0) := by
  rcases F with h | h | h | h | h | h | h | h | h | h
  · obtain ⟨h1, h2, h3, h4, h5, h6, h7, h8⟩ := h
    refine ⟨h2, fun z => Or.inl ⟨h1, h8 (Or.inl z), ?_⟩, fun z => absurd z h5, fun _ _ => ⟨h6, h7⟩, fun z => by omega, fun z => Or.inl ⟨h1, h8 (by omega)⟩, fun z => Or.inl ⟨h1, h8 (by omega)⟩, fun _ _ _ _ _ _ _ _ => h1⟩
    have := h8 (Or.inl z)
    subst this
    exact h6
  · obtain ⟨h1, h2, h3⟩ := h
    refine ⟨by omega, fun _ => ?_, fun z => by omega, fun z => absurd h2 z, fun z => by omega, fun z => by omega, fun z => by omega, fun z => absurd h2 z⟩
    rcases h3 with ⟨z, _⟩ | ⟨_, z2, j, z3, z4, z5, z6⟩ | ⟨_, z2, z3⟩
    · cases z
    · refine Or.inr (Or.inl ⟨h1, z2, j, z3, z4, fun y => ?_, z6⟩)
      rw [if_pos y] at z5; exact z5
    · exact Or.inr (Or.inr ⟨h1, z2, z3⟩)
  · obtain ⟨h1, h2, h3, h6, h7⟩ := h
    exact ⟨by omega, fun z => by omega, fun _ => ⟨h1, h6, h7⟩, fun _ z => absurd ⟨h2, h3⟩ z, fun z => by omega, fun z => by omega, fun z => by omega, fun _ _ _ _ _ _ _ z => absurd ⟨h2, h3⟩ z⟩
  · obtain ⟨h1, h2, h6, h7, h8⟩ := h
    exact ⟨by omega, fun z => by omega, fun z => by omega, fun _ _ => ⟨h6, h7⟩, fun _ => h1, fun z => Or.inr ⟨h1, h8 (by omega)⟩, fun z => by omega, fun _ _ _ _ _ _ _ _ => by omega⟩
  · obtain ⟨h1, h2, h3, h6, h7⟩ := h
    exact ⟨by omega, fun z => by omega, fun z => by omega, fun _ _ => ⟨h6, h7⟩, fun z => by omega, fun z => by omega, fun _ => Or.inr h1, fun _ _ _ _ _ _ z _ => absurd h2 z⟩
  all_goals omega
theorem y_150 (G : g_w g V Z pa T) (Yt : yT g V h_count h_open h_types c_sort c_op c_na c_nb c_up c_val c_size c_params c_parent) {nd ev ph gt bv ty sr : Nat} {rm : List Nat} {x0 x1 x2 la bx dt pl : Int32} {sc : List (Nat × Nat × Nat)} {tg : Option Nat} (F : w_f g V Z pa 0 ((nd, ev, ph, rm), (gt, x0, x1, x2), (la, bv, bx, ty), dt, sc, sr, tg, pl) r) (W : w_l g V Z pa 1 r) (hph : ph < 4) (hfr : m_fc r ≤ gD g) (hs : w_s g s) (hpr : sPr s < 1000000) (hg : yGl gv gh (sGl s)) (YA : yA g c_node c_got c_handle c_pTarget c_pPlace c_act c_mode c_bVar c_pType c_v0 c_v1 c_v2 c_last c_bVal c_pVal (¬ (gO g nd = 9 ∧ gt = 1)) (m_yh r) ((nd, ev, ph, rm), (gt, x0, x1, x2), (la, bv, bx, ty), dt, sc, sr, tg, pl) r) (Yr : yL g c_node c_got c_handle c_pTarget c_pPlace c_act c_mode c_bVar c_pType c_v0 c_v1 c_v2 c_last c_bVal c_pVal r) (hx9 : gO g nd = 9 → gt = 1 → bv = gA g nd ∧ bx = x0 ∧ 8 ≤ bv ∧ bv < 12) (hw : gO g nd = 10 → ph = 1 ∧ (gt = 1 → c_last (m_yh r) ≠ 0)) (h : ∀ u', yQ g V h_count h_open h_types c_sort c_op c_na c_nb c_up c_val c_size c_params c_parent (m_pro g ((nd, ev, ph, rm), (gt, x0, x1, x2), (la, bv, bx, ty), dt, sc, sr, tg, pl) r s) u' → P u') : wY_advance_150 P (nI (m_yh r)) (nI nd) (nI (gO g nd)) (nI (gK g nd).length) (nI (gD g)) (nI (gF g)) h_count h_open h_types (nI (m_yh r + 1)) ret xt xv xy xp 0 0 1 ((y_z0 oc).1) ((y_z0 oc).2.1) ((y_z0 oc).2.2.1) ((y_z0 oc).2.2.2.1) ((y_z0 oc).2.2.2.2) (nI (sBe s)) (nI (sPr s)) c_sort c_op c_na c_nb c_up c_val c_size c_params c_parent gv (sCe s) (sLo s) gh c_node c_got c_handle c_pTarget c_pPlace c_act c_mode c_bVar c_pType c_v0 c_v1 c_v2 c_last c_bVal c_pVal (sOu s) := by
  have f1 : V nd := F.1
  have f2 : ev ≤ 5 := F.2.1
  have f4 := F.2.2.2.1
  obtain ⟨w1, w6, w16, wo, w7, w9, w15, wz⟩ := w_kinds F.2.2.1 hph
  have n2 := (G.1 nd f1).2.1
  have n4 := (G.1 nd f1).2.2.2.1
  have hKl := (w_ks G (n := nd) f1).2.1
  have h5 : m_yh r ≤ 518 := y_len (F.2.2.2.2.2.2.2.2.1 (by show ph ≠ 7; omega)) n2
  have hk : m_yh r < 520 := by omega
  have tma := (Yt.1 nd f1).2.2.2.1
  have a1 := YA.1
  have a2 := YA.2.1
  have a3 := YA.2.2.1
  have a6 := YA.2.2.2.2.2.1
  have a9 := YA.2.2.2.2.2.2.2.2.1
  have a10 := YA.2.2.2.2.2.2.2.2.2.1
  have full : gO g nd ≠ 9 ∨ gt ≠ 1 → yA g c_node c_got c_handle c_pTarget c_pPlace c_act c_mode c_bVar c_pType c_v0 c_v1 c_v2 c_last c_bVal c_pVal True (m_yh r) ((nd, ev, ph, rm), (gt, x0, x1, x2), (la, bv, bx, ty), dt, sc, sr, tg, pl) r := by
    intro z
    obtain ⟨b1, b2, b3, b4, b5, b6⟩ := YA
    exact ⟨b1, b2, b3, b4, fun _ => b5 (by omega), b6⟩
  have DLV : ∀ v, (∀ u', yQ g V h_count h_open h_types c_sort c_op c_na c_nb c_up c_val c_size c_params c_parent (m_dlv r v s) u' → P u') → P (yU g h_count h_open h_types c_sort c_op c_na c_nb c_up c_val c_size c_params c_parent (y_z0 oc) 1 (sBe s) s (m_yh r) v xt xv xy xp 1 0 gv gh c_node c_got c_handle c_pTarget c_pPlace c_act c_mode c_bVar c_pType c_v0 c_v1 c_v2 c_last c_bVal c_pVal) := fun v hh => hh _ (y_dlv hg Yr)
  have EV : ∀ {c cs}, gO g nd ≠ 9 ∨ gt ≠ 1 → rm = c :: cs → wpY_evaluate P (yU g h_count h_open h_types c_sort c_op c_na c_nb c_up c_val c_size c_params c_parent (y_z0 oc) 1 (sBe s) s (m_yh r + 1) ret xt xv xy xp 0 0 gv gh c_node c_got c_handle c_pTarget c_pPlace c_act c_mode c_bVar c_pType c_v0 c_v1 c_v2 c_last c_bVal c_pVal) (nI c) (nI ev) := by
    intro c cs z e
    subst e
    exact y_nxt G Yt F W hs hg (full z) Yr h
  refine xx_n hk ?_
  rw [a3]
  have hgt : gt ≤ 57 := by
    by_cases o6 : gO g nd = 6
    · rcases w6 o6 with z | z | z <;> omega
    · by_cases o16 : 16 ≤ gO g nd ∧ gO g nd ≤ 18
      · have := (w16 o16).2.2
        omega
      · have := (wo o6 o16).2
        omega
  refine fb_if (nI_eq (b := 6) (by omega) (by decide)) (fun o => ?_) (fun o => ?_)
  · have hl3 := fo_lst (k := 3) (G.1 nd f1) (by omega) (by rw [o]; rfl)
    rcases w6 o with ⟨z1, z2, z3⟩ | ⟨z1, z2, j, z3, z4, z5, z6⟩ | ⟨z1, z2, z3⟩
    · rw [z2]
      refine br_f (by decide) (br_t rfl ?_)
      refine Yt.2.2.1 nd f1 0 (by decide) _ _ _ _ _ _ _ _ _ _ _ _ _ _ _ _ _ _ _ _ _ _ _ _ _ _ _ _ _ _ _ _ _ _ _ _ _ _ _ ?_
      refine ⟨vp_in_nI hk (by decide), ?_⟩
      rw [nI_clamp (by omega), a2, fo_nx_g (by omega)]
      obtain ⟨c, cs, hc⟩ : ∃ c cs, gK g nd = c :: cs := by
        cases hK : gK g nd with
        | nil => rw [hK] at hl3; exact absurd hl3 (by decide)
        | cons c cs => exact ⟨c, cs, rfl⟩
      have e : (gK g nd).getD 0 0 = c := by rw [hc]; rfl
      rw [e]
      exact EV (Or.inl (by omega)) (z3.trans hc)
    · rw [z2]
      refine br_f (by decide) (br_f (by decide) ⟨vp_in_nI hk (by decide), ?_⟩)
      rw [nI_clamp (by omega), a6 (Or.inr (Or.inr ⟨z1, Or.inr (Or.inl o)⟩)) (by omega)]
      rcases z3 with rfl | rfl
      · refine br_f (z6 rfl) ?_
        refine Yt.2.2.1 nd f1 1 (by decide) _ _ _ _ _ _ _ _ _ _ _ _ _ _ _ _ _ _ _ _ _ _ _ _ _ _ _ _ _ _ _ _ _ _ _ _ _ _ _ ?_
        refine ⟨vp_in_nI hk (by decide), ?_⟩
        rw [nI_clamp (by omega), a2, fo_nx_g (by omega)]
        exact EV (Or.inl (by omega)) z4
      · refine br_t (z5 rfl) ?_
        refine Yt.2.2.1 nd f1 2 (by decide) _ _ _ _ _ _ _ _ _ _ _ _ _ _ _ _ _ _ _ _ _ _ _ _ _ _ _ _ _ _ _ _ _ _ _ _ _ _ _ ?_
        refine ⟨vp_in_nI hk (by decide), ?_⟩
        rw [nI_clamp (by omega), a2, fo_nx_g (by omega)]
        exact EV (Or.inl (by omega)) z4
    · rw [z2]
      refine br_t rfl ⟨vp_in_nI hk (by decide), ?_⟩
      rw [nI_clamp (by omega), a9 z1 (Or.inr (by omega))]
      refine y_done (m_yh r) ?_
      subst z1 z3
      have e0 : m_pro g ((nd, ev, 1, []), (gt, x0, x1, x2), (la, bv, bx, ty), dt, sc, sr, tg, pl) r s = m_dlv r la s := if_neg (by omega)
      exact DLV la (fun u' hu => h u' (by rw [e0]; exact hu))
  · refine fb_if (nI_eq (b := 10) (by omega) (by decide)) (fun o10 => ?_) (fun o10 => ?_)
    · obtain ⟨z1, z2⟩ := hw o10
      have z3 : 1 ≤ gt := by
        rcases w9 (by omega) with y | y <;> omega
      obtain ⟨z4, z5⟩ := wo o (by omega)
      have hb : bv = 0 := by
        rcases f4 with z | ⟨_, _, z⟩
        · exact z
        · rcases z with ⟨_, z⟩ | z | z
          · have z : gO g nd = 9 := z
            omega
          · have z : ph = 5 := z
            omega
          · have z : ph = 7 := z
            omega
      subst hb
      have rest : wY_loop_52 P (nI (m_yh r)) (nI nd) (nI gt) (nI (gK g nd).length) (nI (gD g)) (nI (gF g)) h_count h_open h_types (nI (m_yh r + 1)) ret xt xv xy xp 0 0 1 ((y_z0 oc).1) ((y_z0 oc).2.1) ((y_z0 oc).2.2.1) ((y_z0 oc).2.2.2.1) ((y_z0 oc).2.2.2.2) (nI (sBe s)) (nI (sPr s)) c_sort c_op c_na c_nb c_up c_val c_size c_params c_parent gv (sCe s) (sLo s) gh c_node c_got c_handle c_pTarget c_pPlace c_act c_mode c_bVar c_pType c_v0 c_v1 c_v2 c_last c_bVal c_pVal (sOu s) := by
        refine fb_if (nI_eq (by omega) (by omega)) (fun y => ?_) (fun y => ?_)
        · have hrm : rm = [] := by rw [z4, y]; exact List.drop_eq_nil_of_le (Nat.le_refl _)
          subst hrm z1
          refine yy_w 0 hk y_0s ?_
          have e0 : m_pro g ((nd, ev, 1, []), (gt, x0, x1, x2), (la, 0, bx, ty), dt, sc, sr, tg, pl) r s = (if sBe s < gF g then (0, 0, none, 0, 0, m_new g nd ev :: r, s_be s (sBe s + 1)) else (6, 0, none, 0, 0, ((nd, ev, 1, []), (gt, x0, x1, x2), (la, 0, bx, ty), dt, sc, sr, tg, pl) :: r, s)) := if_pos o10
          have em : m_new g nd ev = ((nd, ev, 0, gK g nd), (0, 0, 0, 0), (0, 0, 0, 0), 0, [], 0, none, 0) := by
            unfold m_new
            rw [if_neg (by omega), if_neg (by omega)]
          rw [em] at e0
          by_cases hbe : sBe s < gF g
          · rw [if_pos hbe] at e0
            refine h _ ?_
            rw [e0]
            refine Or.inl ⟨oc, sBe s, m_yh r + 1, ret, xt, xv, xy, xp, 0, 0, gv, gh, c_node, upd c_got (m_yh r) 0, c_handle, c_pTarget, c_pPlace, c_act, c_mode, c_bVar, c_pType, c_v0, c_v1, c_v2, c_last, c_bVal, c_pVal, hg, fun _ => ⟨rfl, ?_, yL_keep W Yr yE_r (yE_u yE_r (Nat.le_refl _)) yE_r yE_r yE_r yE_r yE_r yE_r yE_r yE_r yE_r yE_r yE_r yE_r yE_r⟩, fun _ => ⟨rfl, rfl, ?_⟩, fun z => (by cases z), fun z => (by cases z), fun z => (by cases z), fun z => absurd z (by show ¬ 1 ≤ 0; decide), rfl⟩
            · refine ⟨a1, a2, pk_us, YA.2.2.2.1, fun _ => ⟨(YA.2.2.2.2.1 (by omega)).1, fun z => absurd rfl z⟩, fun _ z => absurd z (by decide), fun _ z => absurd z (by decide), fun _ z => absurd z (by decide), fun z => (by cases z), fun z => (by cases z), fun z => (by cases z)⟩
            · show sBe s + (if gO g nd = 10 then 1 else 0) = sBe s + 1
              rw [if_pos o10]
          · rw [if_neg hbe] at e0
            refine h _ ?_
            rw [e0]
            exact Or.inr (Or.inr ⟨oc, ret, xt, xv, xy, xp, gv, gh, c_node, upd c_got (m_yh r) 0, c_handle, c_pTarget, c_pPlace, c_act, c_mode, c_bVar, c_pType, c_v0, c_v1, c_v2, c_last, c_bVal, c_pVal, s, _, m_yh r, nd, rfl, hg, hk, f1, o10, a1, pk_us, by omega, hs.1, rfl⟩)
        · refine Yt.2.2.1 nd f1 gt (by omega) _ _ _ _ _ _ _ _ _ _ _ _ _ _ _ _ _ _ _ _ _ _ _ _ _ _ _ _ _ _ _ _ _ _ _ _ _ _ _ ?_
          refine ⟨vp_in_nI hk (by decide), ?_⟩
          rw [nI_clamp (by omega), a2]
          cases hrm : rm with
          | nil =>
            rw [hrm] at z4
            have := congrArg List.length z4
            rw [List.length_drop] at this
            have : 0 = (gK g nd).length - gt := this
            omega
          | cons c cs =>
            rw [fo_nx_d (z4.symm.trans hrm)]
            exact EV (Or.inl (by omega)) hrm
      refine br_f (nI_ne0 (by omega) (by omega)) ?_
      refine fb_if (nI_eq (b := 1) (by omega) (by decide)) (fun y => ⟨vp_in_nI hk (by decide), ?_⟩) (fun y => rest)
      rw [nI_clamp (by omega)]
      exact br_f (z2 y) rest
    · have S335 : (gO g nd ≠ 6 → ¬ (16 ≤ gO g nd ∧ gO g nd ≤ 18) → ∀ {bVr bVl : Nat → Int32}, yA g c_node c_got c_handle c_pTarget c_pPlace c_act c_mode bVr c_pType c_v0 c_v1 c_v2 c_last bVl c_pVal True (m_yh r) ((nd, ev, ph, rm), (gt, x0, x1, x2), (la, bv, bx, ty), dt, sc, sr, tg, pl) r → yL g c_node c_got c_handle c_pTarget c_pPlace c_act c_mode bVr c_pType c_v0 c_v1 c_v2 c_last bVl c_pVal r → wY_advance_335 P (nI (m_yh r)) (nI nd) (nI (gO g nd)) (nI (gK g nd).length) (nI gt) (nI (gD g)) (nI (gF g)) h_count h_open h_types (nI (m_yh r + 1)) ret xt xv xy xp 0 0 1 ((y_z0 oc).1) ((y_z0 oc).2.1) ((y_z0 oc).2.2.1) ((y_z0 oc).2.2.2.1) ((y_z0 oc).2.2.2.2) (nI (sBe s)) (nI (sPr s)) c_sort c_op c_na c_nb c_up c_val c_size c_params c_parent gv (sCe s) (sLo s) gh c_node c_got c_handle c_pTarget c_pPlace c_act c_mode bVr c_pType c_v0 c_v1 c_v2 c_last bVl c_pVal (sOu s)) := by
        intro o o16 bVr bVl YB Yr'
        obtain ⟨z4, z5⟩ := wo o o16
        have hrm0 : gt = (gK g nd).length → rm = [] := by
          intro y
          rw [z4, y]; exact List.drop_eq_nil_of_le (Nat.le_refl _)
        have DLV' : ∀ v, (∀ u', yQ g V h_count h_open h_types c_sort c_op c_na c_nb c_up c_val c_size c_params c_parent (m_dlv r v s) u' → P u') → P (yU g h_count h_open h_types c_sort c_op c_na c_nb c_up c_val c_size c_params c_parent (y_z0 oc) 1 (sBe s) s (m_yh r) v xt xv xy xp 1 0 gv gh c_node c_got c_handle c_pTarget c_pPlace c_act c_mode bVr c_pType c_v0 c_v1 c_v2 c_last bVl c_pVal) := fun v hh => hh _ (y_dlv hg Yr')
        refine fb_if (nI_leI (by omega) (by omega)) (fun y => ?_) (fun y => ?_)
        · have hrm := hrm0 (by omega)
          subst hrm
          have D1 : ph = 1 → gO g nd ≠ 10 → ∀ v, v = la → P (yU g h_count h_open h_types c_sort c_op c_na c_nb c_up c_val c_size c_params c_parent (y_z0 oc) 1 (sBe s) s (m_yh r) v xt xv xy xp 1 0 gv gh c_node c_got c_handle c_pTarget c_pPlace c_act c_mode bVr c_pType c_v0 c_v1 c_v2 c_last bVl c_pVal) := by
            intro z1 z2 v hv
            subst z1
            rw [hv]
            have e0 : m_pro g ((nd, ev, 1, []), (gt, x0, x1, x2), (la, bv, bx, ty), dt, sc, sr, tg, pl) r s = m_dlv r la s := if_neg z2
            exact DLV' la (fun u' hu => h u' (by rw [e0]; exact hu))
          refine fb_if (nI_eq (b := 7) (by omega) (by decide)) (fun o7 => ?_) (fun o7 => ?_)
          · refine ⟨vp_in_nI hk (by decide), ?_⟩
            rw [nI_clamp (by omega)]
            exact y_done (m_yh r) (D1 (w7 (Or.inl o7)) o10 _ (a9 (w7 (Or.inl o7)) (Or.inl (Or.inl o7))))
          refine fb_if (nI_eq (b := 11) (by omega) (by decide)) (fun o11 => ?_) (fun o11 => ?_)
          · refine ⟨vp_in_nI hk (by decide), ?_⟩
            rw [nI_clamp (by omega)]
            exact y_done (m_yh r) (D1 (w7 (Or.inr o11)) o10 _ (a9 (w7 (Or.inr o11)) (Or.inl (Or.inr (Or.inl o11)))))
          have S399 : (gO g nd = 9 ∨ gO g nd = 13) → wY_advance_399 P (nI (m_yh r)) (nI (gK g nd).length) (nI (gD g)) (nI (gF g)) h_count h_open h_types (nI (m_yh r + 1)) ret xt xv xy xp 0 0 1 ((y_z0 oc).1) ((y_z0 oc).2.1) ((y_z0 oc).2.2.1) ((y_z0 oc).2.2.2.1) ((y_z0 oc).2.2.2.2) (nI (sBe s)) (nI (sPr s)) c_sort c_op c_na c_nb c_up c_val c_size c_params c_parent gv (sCe s) (sLo s) gh c_node c_got c_handle c_pTarget c_pPlace c_act c_mode bVr c_pType c_v0 c_v1 c_v2 c_last bVl c_pVal (sOu s) := by
            intro o9
            have hl1 := fo_lst (k := 1) (G.1 nd f1) (by omega) (by rcases o9 with z | z <;> rw [z] <;> rfl)
            have hp1 : ph = 1 ∧ 1 ≤ gt := by
              rcases w9 (by omega) with z | z <;> omega
            refine fb_if (nI_eq (b := 1) (by omega) (by decide)) (fun z => ?_) (fun z => ⟨vp_in_nI hk (by decide), ?_⟩)
            · exact y_done (m_yh r) (D1 hp1.1 o10 _ (a10 hp1.1 o9 (by omega)).symm)
            · rw [nI_clamp (by omega)]
              exact y_done (m_yh r) (D1 hp1.1 o10 _ (a9 hp1.1 (Or.inr (by omega))))
          refine fb_if (nI_eq (b := 9) (by omega) (by decide)) (fun o9 => S399 (Or.inl o9)) (fun o9 => ?_)
          refine fb_if (nI_eq (b := 13) (by omega) (by decide)) (fun o13 => S399 (Or.inr o13)) (fun o13 => ?_)
          refine fb_if (nI_eq (b := 15) (by omega) (by decide)) (fun o15 => ?_) (fun o15 => ?_)
          · have hl1 := fo_lst (k := 1) (G.1 nd f1) (by omega) (by rw [o15]; rfl)
            have hp : ph = 2 ∨ ph = 3 := by
              rcases w15 o15 with z | z
              · omega
              · exact z
            exact y_endp G F o15 hp hg YB Yr' h
          · have hp0 := wz o o7 o9 o10 o11 o13 o15 o16
            subst hp0
            exact y_app G Yt F W hfr hs hpr hg YB Yr' h
        · refine Yt.2.2.1 nd f1 gt (by omega) _ _ _ _ _ _ _ _ _ _ _ _ _ _ _ _ _ _ _ _ _ _ _ _ _ _ _ _ _ _ _ _ _ _ _ _ _ _ _ ?_
          refine ⟨vp_in_nI hk (by decide), ?_⟩
          rw [nI_clamp (by omega), a2]
          cases hrm : rm with
          | nil =>
            rw [hrm] at z4
            have := congrArg List.length z4
            rw [List.length_drop] at this
            have : 0 = (gK g nd).length - gt := this
            omega
          | cons c cs =>
            rw [fo_nx_d (z4.symm.trans hrm)]
            subst hrm
            exact y_nxt G Yt F W hs hg YB Yr' h
      have S299 : ¬ (16 ≤ gO g nd ∧ gO g nd ≤ 18) → wY_advance_299 P (nI (m_yh r)) (nI nd) (nI (gO g nd)) (nI (gK g nd).length) (nI gt) (nI (gD g)) (nI (gF g)) h_count h_open h_types (nI (m_yh r + 1)) ret xt xv xy xp 0 0 1 ((y_z0 oc).1) ((y_z0 oc).2.1) ((y_z0 oc).2.2.1) ((y_z0 oc).2.2.2.1) ((y_z0 oc).2.2.2.2) (nI (sBe s)) (nI (sPr s)) c_sort c_op c_na c_nb c_up c_val c_size c_params c_parent gv (sCe s) (sLo s) gh c_node c_got c_handle c_pTarget c_pPlace c_act c_mode c_bVar c_pType c_v0 c_v1 c_v2 c_last c_bVal c_pVal (sOu s) := by
        intro o16
        refine fb_if (nI_eq (b := 9) (by omega) (by decide)) (fun o9 => ?_) (fun o9 => ?_)
        · refine fb_if (nI_eq (b := 1) (by omega) (by decide)) (fun g1 => ?_) (fun g1 => ?_)
          · obtain ⟨x1', x2', x3', x4'⟩ := hx9 o9 g1
            refine ⟨vp_in_nI n4 (by decide), ?_⟩
            rw [nI_clamp (n := nd) (by omega), tma (by unfold fo_ma; omega)]
            refine yy_w (nI (gA g nd)) hk (fb_byte' (by omega)) ?_
            refine ⟨vp_in_nI hk (by decide), ?_⟩
            have hp1 : ph = 1 := by
              rcases w9 (by omega) with z | z <;> omega
            rw [nI_clamp (n := m_yh r) (by omega), a6 (Or.inr (Or.inr ⟨hp1, Or.inr (Or.inr o9)⟩)) (by omega)]
            refine ⟨vp_in_nI hk (by decide), nm_e ?_⟩
            refine S335 o o16 ?_ (yL_keep W Yr yE_r yE_r yE_r yE_r yE_r yE_r yE_r (yE_u yE_r (Nat.le_refl _)) yE_r yE_r yE_r yE_r yE_r (yE_u yE_r (Nat.le_refl _)) yE_r)
            obtain ⟨b1, b2, b3, b4, b5, b6⟩ := YA
            refine ⟨b1, b2, b3, b4, fun _ => ⟨?_, fun _ => ?_⟩, b6⟩
            · rw [pk_us]
              unfold y_bv
              rw [if_neg (by omega), x1']
            · rw [pk_us, x2']
          · exact S335 o o16 (full (Or.inr g1)) Yr
        · exact S335 o o16 (full (Or.inl o9)) Yr
      refine fb_if (nI_ltI (b := 16) (by omega) (by decide)) (fun z => S299 (by omega)) (fun z => ?_)
      refine fb_if (nI_ltI (a := 18) (by decide) (by omega)) (fun z2 => S299 (by omega)) (fun z2 => ?_)
      obtain ⟨b1, b2, b3⟩ := w16 (by omega)
      obtain ⟨kk, hkk⟩ : ∃ kk, (gK g nd).length = kk + 1 := ⟨(gK g nd).length - 1, by omega⟩
      rw [hkk, nI_pred]
      refine fb_if (nI_eq (by omega) (by omega)) (fun y => ?_) (fun y => ?_)
      · refine ⟨vp_in_nI hk (by decide), ?_⟩
        rw [nI_clamp (by omega), a9 b1 (Or.inl (Or.inr (Or.inr (by omega))))]
        refine y_done (m_yh r) ?_
        have hrm : rm = [] := by rw [b2]; exact List.drop_eq_nil_of_le (by omega)
        subst b1 hrm
        have e0 : m_pro g ((nd, ev, 1, []), (gt, x0, x1, x2), (la, bv, bx, ty), dt, sc, sr, tg, pl) r s = m_dlv r la s := if_neg (by omega)
        exact DLV la (fun u' hu => h u' (by rw [e0]; exact hu))
      · rw [nI_1]
        refine Yt.2.2.1 nd f1 (gt + 1) (by omega) _ _ _ _ _ _ _ _ _ _ _ _ _ _ _ _ _ _ _ _ _ _ _ _ _ _ _ _ _ _ _ _ _ _ _ _ _ _ _ ?_
        refine ⟨vp_in_nI hk (by decide), ?_⟩
        rw [nI_clamp (by omega), a2]
        cases hrm : rm with
        | nil =>
          rw [hrm] at b2
          have := congrArg List.length b2
          rw [List.length_drop] at this
          have : 0 = (gK g nd).length - (gt + 1) := this
          omega
        | cons c cs =>
          rw [fo_nx_d (b2.symm.trans hrm)]
          exact EV (Or.inl (by omega)) hrm
end
