/-! the reference's side: a search's step -/
section
variable {g : mG} {V : Nat → Prop} {Z : Nat → Nat} {pa : Nat → Option Nat} {T : Nat} {h_count h_open h_types : Int32} {c_sort c_op c_na c_nb c_up c_val c_size c_params c_parent : Nat → Int32} {s : St} {oc ret xt xv xy xp ha exi v : Int32} {be : Nat} {gv gh : Nat → Int32} {c_node c_got c_handle c_pTarget c_pPlace c_act c_mode c_bVar c_pType c_v0 c_v1 c_v2 c_last c_bVal c_pVal : Nat → Int32} {l r : List Fr} {f : Fr} {P : SY → Prop} {post : Int32 → SY → Prop} {N i p q : Nat}
theorem w_srI (G : g_w g V Z pa T) {nd ev ph gt bv ty sr : Nat} {rm : List Nat} {x0 x1 x2 la bx dt pl : Int32} {sc : List (Nat × Nat × Nat)} {tg : Option Nat} {r : List Fr} {h n e : Nat} {t : List (Nat × Nat × Nat)} (F : w_f g V Z pa 1 ((nd, ev, ph, rm), (gt, x0, x1, x2), (la, bv, bx, ty), dt, sc, sr, tg, pl) r) (hp : ph = 4 ∨ ph = 8) (c3 : ((h, n, e) :: t) <:+ m_ch g r) (hO16 : gO g n = 16) : w_iq g Z ((gK g n).getD 0 0) (((n, e, 7, []), (0, 0, 0, 0), (0, m_cv g n, dt, 0), 0, t, 0, none, 0) :: ((nd, ev, ph, rm), (gt, x0, x1, x2), (la, bv, bx, ty), dt, t, h, tg, pl) :: r) := by
  obtain ⟨hne7, hne6, hne1, hne3⟩ := w_48 hp
  have fcf : m_fc (((nd, ev, ph, rm), (gt, x0, x1, x2), (la, bv, bx, ty), dt, t, h, tg, pl) :: r) = m_fc r := w_fc_ne hne6
  have ef : m_fc (((n, e, 7, []), (0, 0, 0, 0), (0, m_cv g n, dt, 0), 0, t, 0, none, 0) :: ((nd, ev, ph, rm), (gt, x0, x1, x2), (la, bv, bx, ty), dt, t, h, tg, pl) :: r) = m_fc r := by
    rw [w_fc_ne (by show (7 : Nat) ≠ 6; decide)]; exact fcf
  have ec : m_ch g (((n, e, 7, []), (0, 0, 0, 0), (0, m_cv g n, dt, 0), 0, t, 0, none, 0) :: ((nd, ev, ph, rm), (gt, x0, x1, x2), (la, bv, bx, ty), dt, t, h, tg, pl) :: r) = t := if_pos rfl
  have ey : m_yh (((n, e, 7, []), (0, 0, 0, 0), (0, m_cv g n, dt, 0), 0, t, 0, none, 0) :: ((nd, ev, ph, rm), (gt, x0, x1, x2), (la, bv, bx, ty), dt, t, h, tg, pl) :: r) ≤ 2 + m_yh r := by
    show m_yh r + (if ph = 7 then 0 else if ph = 4 then 2 else 1) + 0 ≤ 2 + m_yh r
    split
    · omega
    · split <;> omega
  obtain ⟨f1, f2, f3, f4, f5, f6, f7, f8, f9, f10⟩ := F
  obtain ⟨i1, i2⟩ := f9 hne7
  obtain ⟨y1, y2⟩ := w_kY_suf (g := g) (Z := Z) c3
  have y1 : (if gO g n = 16 then 3 * Z ((gK g n).getD 0 0) + 1 else 0) + w_kY g Z t ≤ w_kY g Z (m_ch g r) := y1
  have y2 : (if gO g n = 16 then 4 * Z ((gK g n).getD 0 0) + 2 else 0) + w_kX g Z t ≤ w_kX g Z (m_ch g r) := y2
  rw [if_pos hO16] at y1 y2
  have zn : 1 ≤ Z nd := (G.1 nd f1).2.1
  unfold w_iq
  rw [ef, ec]
  exact w_ar1 (L := r.length) i1 i2 y1 y2 zn ey
theorem y_srch (G : g_w g V Z pa T) (Yt : yT g V h_count h_open h_types c_sort c_op c_na c_nb c_up c_val c_size c_params c_parent) {nd ev ph gt bv ty sr : Nat} {rm : List Nat} {x0 x1 x2 la bx dt pl : Int32} {sc : List (Nat × Nat × Nat)} {tg : Option Nat} (F : w_f g V Z pa 1 ((nd, ev, ph, rm), (gt, x0, x1, x2), (la, bv, bx, ty), dt, sc, sr, tg, pl) r) (W : w_l g V Z pa 1 r) (hp : ph = 4 ∨ ph = 8) (hs : w_s g s) (hg : yGl gv gh (sGl s)) (Y : yL g c_node c_got c_handle c_pTarget c_pPlace c_act c_mode c_bVar c_pType c_v0 c_v1 c_v2 c_last c_bVal c_pVal (((nd, ev, ph, rm), (gt, x0, x1, x2), (la, bv, bx, ty), dt, sc, sr, tg, pl) :: r)) (h : ∀ u', yQ g V h_count h_open h_types c_sort c_op c_na c_nb c_up c_val c_size c_params c_parent (m_srch g ((nd, ev, ph, rm), (gt, x0, x1, x2), (la, bv, bx, ty), dt, sc, sr, tg, pl) r s) u' → P u') : wpY_step P (yU g h_count h_open h_types c_sort c_op c_na c_nb c_up c_val c_size c_params c_parent (y_z0 oc) 1 (sBe s) s (m_yh (((nd, ev, ph, rm), (gt, x0, x1, x2), (la, bv, bx, ty), dt, sc, sr, tg, pl) :: r)) ret xt xv xy xp ha 0 gv gh c_node c_got c_handle c_pTarget c_pPlace c_act c_mode c_bVar c_pType c_v0 c_v1 c_v2 c_last c_bVal c_pVal) := by
  obtain ⟨hne7, hne6, hne1, hne3⟩ := w_48 hp
  have f1 : V nd := F.1
  have n4 := (G.1 nd f1).2.2.2.1
  have hO28 := (G.1 nd f1).1
  obtain ⟨s1, s2, s3, s4, s5, s6⟩ := F.2.2.2.2.1 hp
  have s2 : sr ≤ r.length := s2
  have s3 : m_ch g (r.drop (r.length - sr)) = sc := s3
  have s5 : ty ≤ 15 := s5
  have s6 : ∀ q r', r.drop (r.length - sr) = q :: r' → fr_ph q ≠ 4 ∧ fr_ph q ≠ 8 := s6
  have s1 : sc <:+ m_ch g r := s1
  have h5 : m_yh r ≤ 518 := y_len (F.2.2.2.2.2.2.2.2.1 hne7) (G.1 nd f1).2.1
  have hF : gF g ≤ 200 := G.2.2.2.2.2.2.1
  have hb : bv = 0 := w_bd48 F.2.2.2.1 hp
  have hm : m_yh (((nd, ev, ph, rm), (gt, x0, x1, x2), (la, bv, bx, ty), dt, sc, sr, tg, pl) :: r) = m_yh r + (if ph = 7 then 0 else if ph = 4 then 2 else 1) := rfl
  rw [if_neg hne7] at hm
  have Y1 := Y.1
  have Yr := Y.2
  unfold yF at Y1
  rw [if_neg (show ¬ fr_ph ((nd, ev, ph, rm), (gt, x0, x1, x2), (la, bv, bx, ty), dt, sc, sr, tg, pl) = 7 from hne7)] at Y1
  have op20 : ph = 8 → gO g nd = 28 := by
    intro z
    obtain ⟨_, _, f3, _⟩ := F
    rcases f3 with h | h | h | h | h | h | h | h | h | h
    · omega
    · omega
    · omega
    · omega
    · omega
    · omega
    · omega
    · omega
    · omega
    · exact h.2.1
  have op1617 : ph = 4 → gO g nd ≤ 26 ∧ gO g nd ≠ 16 ∧ gO g nd ≠ 17 ∧ gO g nd ≠ 15 := by
    intro z
    obtain ⟨_, _, f3, _⟩ := F
    rcases f3 with h | h | h | h | h | h | h | h | h | h <;> omega
  obtain ⟨k, hk1, hkr, hkS, hkG, hkY⟩ : ∃ k, m_yh (((nd, ev, ph, rm), (gt, x0, x1, x2), (la, bv, bx, ty), dt, sc, sr, tg, pl) :: r) = k + 1 ∧ (ph = 4 → k = m_yh r + 1) ∧ (c_node k = -1 ∧ c_v0 k = nI ty ∧ c_v1 k = dt ∧ c_v2 k = nI nd ∧ c_mode k = (if gO g nd = 20 then 0 else 1)) ∧ (c_got k = nI (y_at r sr) - 1 ∨ (ph = 4 ∧ sr = r.length ∧ c_got k = nI (m_yh r))) ∧ (ph = 8 → k = m_yh r) := by
    by_cases p4 : ph = 4
    · rw [if_pos p4] at hm
      rw [if_pos (show fr_ph ((nd, ev, ph, rm), (gt, x0, x1, x2), (la, bv, bx, ty), dt, sc, sr, tg, pl) = 4 from p4)] at Y1
      obtain ⟨z1, z2, z3, z4, z5, z6, z7, z8, z9⟩ := Y1
      refine ⟨m_yh r + 1, hm, fun _ => rfl, ⟨z4, z5, z6, z7, z8⟩, ?_, fun z => by omega⟩
      have z9 : c_got (m_yh r + 1) = if sr = r.length then nI (m_yh r) else nI (y_at r sr) - 1 := z9
      by_cases e : sr = r.length
      · rw [if_pos e] at z9
        exact Or.inr ⟨p4, e, z9⟩
      · rw [if_neg e] at z9
        exact Or.inl z9
    · rw [if_neg p4] at hm
      have p8 : ph = 8 := by omega
      rw [if_neg (show ¬ fr_ph ((nd, ev, ph, rm), (gt, x0, x1, x2), (la, bv, bx, ty), dt, sc, sr, tg, pl) = 4 from p4), if_pos (show fr_ph ((nd, ev, ph, rm), (gt, x0, x1, x2), (la, bv, bx, ty), dt, sc, sr, tg, pl) = 8 from p8)] at Y1
      obtain ⟨z4, z5, z6, z7, z8, z9⟩ := Y1
      exact ⟨m_yh r, hm, fun z => absurd z p4, ⟨z4, z5, z6, z7, z8⟩, Or.inl z9, fun _ => rfl⟩
  have hkle : m_yh r ≤ k ∧ k < 520 := by
    rcases hp with z | z
    · have := hkr z
      omega
    · have := hkY z
      omega
  obtain ⟨j1, j2, j3, j4, j5⟩ := hkS
  have YrB : yL g c_node c_got c_handle c_pTarget c_pPlace c_act c_mode (upd c_bVar k (-1)) c_pType c_v0 c_v1 c_v2 c_last c_bVal c_pVal r := yL_keep W Yr yE_r yE_r yE_r yE_r yE_r yE_r yE_r (yE_u yE_r hkle.1) yE_r yE_r yE_r yE_r yE_r yE_r yE_r
  have YFk : ∀ {go ha' bv' bl' : Nat → Int32} {sc' : List (Nat × Nat × Nat)} {sr' : Nat}, yE k go c_got → (go k = nI (y_at r sr') - 1 ∨ (ph = 4 ∧ sr' = r.length ∧ go k = nI (m_yh r))) → (ph = 4 → bv' (m_yh r) = -1) → (sr' = r.length → ph = 4 → go k = nI (m_yh r)) → yF g c_node go (ha') c_pTarget c_pPlace c_act c_mode (bv') c_pType c_v0 c_v1 c_v2 c_last (bl') c_pVal ((nd, ev, ph, rm), (gt, x0, x1, x2), (la, bv, bx, ty), dt, sc', sr', tg, pl) r := by
    intro go ha' bv' bl' sc' sr' e1 e2 e3 e4
    unfold yF
    rw [if_neg (show ¬ fr_ph ((nd, ev, ph, rm), (gt, x0, x1, x2), (la, bv, bx, ty), dt, sc', sr', tg, pl) = 7 from hne7)]
    by_cases p4 : ph = 4
    · rw [if_pos (show fr_ph ((nd, ev, ph, rm), (gt, x0, x1, x2), (la, bv, bx, ty), dt, sc', sr', tg, pl) = 4 from p4)]
      rw [if_pos (show fr_ph ((nd, ev, ph, rm), (gt, x0, x1, x2), (la, bv, bx, ty), dt, sc, sr, tg, pl) = 4 from p4)] at Y1
      have ek := hkr p4
      refine ⟨Y1.1, Y1.2.1, e3 p4, ?_⟩
      rw [← ek]
      refine ⟨j1, j2, j3, j4, j5, ?_⟩
      show go k = if sr' = r.length then nI (m_yh r) else nI (y_at r sr') - 1
      by_cases e : sr' = r.length
      · rw [if_pos e]; exact e4 e p4
      · rw [if_neg e]
        rcases e2 with z | z
        · exact z
        · exact absurd z.2.1 e
    · rw [if_neg (show ¬ fr_ph ((nd, ev, ph, rm), (gt, x0, x1, x2), (la, bv, bx, ty), dt, sc', sr', tg, pl) = 4 from p4)]
      have p8 : ph = 8 := by omega
      rw [if_pos (show fr_ph ((nd, ev, ph, rm), (gt, x0, x1, x2), (la, bv, bx, ty), dt, sc', sr', tg, pl) = 8 from p8)]
      have ek := hkY p8
      rw [← ek]
      refine ⟨j1, j2, j3, j4, j5, ?_⟩
      rcases e2 with z | z
      · exact z
      · exact absurd z.1 p4
  have hbvr : ph = 4 → c_bVar (m_yh r) = -1 := by
    intro p4
    rw [if_pos (show fr_ph ((nd, ev, ph, rm), (gt, x0, x1, x2), (la, bv, bx, ty), dt, sc, sr, tg, pl) = 4 from p4)] at Y1
    exact Y1.2.2.1
  have hg4 : sr = r.length → ph = 4 → c_got k = nI (m_yh r) := by
    intro z p4
    rw [if_pos (show fr_ph ((nd, ev, ph, rm), (gt, x0, x1, x2), (la, bv, bx, ty), dt, sc, sr, tg, pl) = 4 from p4)] at Y1
    have z9 : c_got (m_yh r + 1) = if sr = r.length then nI (m_yh r) else nI (y_at r sr) - 1 := Y1.2.2.2.2.2.2.2.2
    rw [if_pos z] at z9
    rw [hkr p4]; exact z9
  have YF0 : yL g c_node c_got c_handle c_pTarget c_pPlace c_act c_mode (upd c_bVar k (-1)) c_pType c_v0 c_v1 c_v2 c_last c_bVal c_pVal (((nd, ev, ph, rm), (gt, x0, x1, x2), (la, bv, bx, ty), dt, sc, sr, tg, pl) :: r) := by
    refine ⟨?_, YrB⟩
    have := YFk (go := c_got) (ha' := c_handle) (bv' := upd c_bVar k (-1)) (bl' := c_bVal) (sc' := sc) (sr' := sr) yE_r hkG (fun p4 => by rw [pk_un (by have := hkr p4; omega)]; exact hbvr p4) hg4
    exact this
  rw [hk1]
  refine br_t rfl ?_
  refine br_f (xx_ne (a := k + 1) (b := 0) (by omega) (by omega) (by decide)) ?_
  rw [show (nI (k + 1) - 1 : Int32) = nI k from nI_pred _]
  refine ⟨vp_in_nI hkle.2 (by decide), ?_⟩
  rw [nI_clamp (by omega), j1]
  refine br_f (by decide) ?_
  refine yy_w (-1) hkle.2 y_m1b ?_
  refine xx_n hkle.2 ?_
  have E116 : m_sf g ty sc = none → wY_search_116 P (nI k) (-1) (nI (gD g)) (nI (gF g)) h_count h_open h_types (nI (k + 1)) ret xt xv xy xp 0 0 1 ((y_z0 oc).1) ((y_z0 oc).2.1) ((y_z0 oc).2.2.1) ((y_z0 oc).2.2.2.1) ((y_z0 oc).2.2.2.2) (nI (sBe s)) (nI (sPr s)) c_sort c_op c_na c_nb c_up c_val c_size c_params c_parent gv (sCe s) (sLo s) gh c_node c_got c_handle c_pTarget c_pPlace c_act c_mode (upd c_bVar k (-1)) c_pType c_v0 c_v1 c_v2 c_last c_bVal c_pVal (sOu s) := by
    intro hmf
    have e0 : m_srch g ((nd, ev, ph, rm), (gt, x0, x1, x2), (la, bv, bx, ty), dt, sc, sr, tg, pl) r s = if gO g nd = 20 then m_dlv r 0 s else (3, dt, none, ty, m_pla nd, ((nd, ev, ph, rm), (gt, x0, x1, x2), (la, bv, bx, ty), dt, sc, sr, tg, pl) :: r, s) := by
      unfold m_srch
      rw [show m_sf g (fr_ty ((nd, ev, ph, rm), (gt, x0, x1, x2), (la, bv, bx, ty), dt, sc, sr, tg, pl)) (fr_sc ((nd, ev, ph, rm), (gt, x0, x1, x2), (la, bv, bx, ty), dt, sc, sr, tg, pl)) = none from hmf]
      rfl
    refine br_f (by decide) ?_
    refine xx_n hkle.2 ?_
    rw [j4]
    refine xx_n hkle.2 ?_
    rw [j2]
    have S167 : wY_search_167 P (nI k) (m_pla nd) (nI (gD g)) (nI (gF g)) h_count h_open h_types (nI (k + 1)) ret xt xv (nI ty) xp 0 0 1 ((y_z0 oc).1) ((y_z0 oc).2.1) ((y_z0 oc).2.2.1) ((y_z0 oc).2.2.2.1) ((y_z0 oc).2.2.2.2) (nI (sBe s)) (nI (sPr s)) c_sort c_op c_na c_nb c_up c_val c_size c_params c_parent gv (sCe s) (sLo s) gh c_node c_got c_handle c_pTarget c_pPlace c_act c_mode (upd c_bVar k (-1)) c_pType c_v0 c_v1 c_v2 c_last c_bVal c_pVal (sOu s) := by
      refine ⟨vp_in_nI hkle.2 (by decide), ?_⟩
      rw [nI_clamp (n := k) (by omega), j5]
      by_cases o : gO g nd = 20
      · rw [if_pos o] at e0 ⊢
        have p4 : ph = 4 := by
          rcases hp with z | z
          · exact z
          · have := op20 z
            omega
        have ek := hkr p4
        refine br_f (by decide) (nm_r (nI_pred k) ?_)
        rw [ek]
        refine y_done (m_yh r) ?_
        refine h _ ?_
        rw [e0]
        exact y_dlv hg (by rw [← ek]; exact YrB)
      · rw [if_neg o] at e0 ⊢
        refine br_t rfl ⟨vp_in_nI hkle.2 (by decide), ?_⟩
        rw [j3]
        refine h _ ?_
        rw [e0]
        exact Or.inl ⟨oc, sBe s, k + 1, ret, -1, dt, nI ty, m_pla nd, 0, 1, gv, gh, _, _, _, _, _, _, _, _, _, _, _, _, _, _, _, hg, fun _ => ⟨hk1.symm, YF0⟩, fun z => (by cases z), fun z => (by cases z), fun z => (by cases z), fun _ => ⟨rfl, rfl, rfl, rfl, fun _ => ⟨rfl, rfl⟩⟩, fun _ => rfl, rfl⟩
    refine fb_if (nI_ltI (b := 336) (by omega) (by decide)) (fun z => ?_) (fun z => ?_)
    · refine ⟨by decide, by decide, ?_⟩
      have e1 : nI nd / 56 = nI (nd / 56) := pk_div (by omega) (by decide) (by decide)
      have e2 : nI nd - nI (nd / 56) * 56 = nI (nd % 56) := by
        rw [← e1]; exact pk_rem (by omega) (by decide) (by decide)
      rw [e1, e2, show (1 : Int32) = nI 1 from rfl, nI_add, show (100 : Int32) = nI 100 from rfl, pk_mul, nI_add]
      have ep : m_pla nd = nI (nd % 56 + 100 * (1 + nd / 56)) := if_neg (by omega)
      rw [← ep]
      exact S167
    · rw [show nI nd - 336 = nI (nd - 336) from pk_sub (b := 336) (by omega)]
      have ep : m_pla nd = nI (nd - 336) := if_pos (by omega)
      rw [← ep]
      exact S167
  have F116 : ∀ q r', (q :: r') <:+ r → fr_ph q = 1 → m_sf g ty sc = some ((r'.length, fr_nd q, fr_ev q), m_ch g r') → wY_search_116 P (nI k) (nI (m_yh r')) (nI (gD g)) (nI (gF g)) h_count h_open h_types (nI (k + 1)) ret xt xv xy xp 0 0 1 ((y_z0 oc).1) ((y_z0 oc).2.1) ((y_z0 oc).2.2.1) ((y_z0 oc).2.2.2.1) ((y_z0 oc).2.2.2.2) (nI (sBe s)) (nI (sPr s)) c_sort c_op c_na c_nb c_up c_val c_size c_params c_parent gv (sCe s) (sLo s) gh c_node c_got c_handle c_pTarget c_pPlace c_act c_mode (upd c_bVar k (-1)) c_pType c_v0 c_v1 c_v2 c_last c_bVal c_pVal (sOu s) := by
    intro q r' q1 q5 hmf
    obtain ⟨b1, b2⟩ := m_sf_some hmf
    have c3 : ((r'.length, fr_nd q, fr_ev q) :: m_ch g r') <:+ m_ch g r := b1.trans s1
    obtain ⟨Q, QW⟩ := w_suf W q1
    obtain ⟨q1a, _, q1b, _, _, _, _, q6, _⟩ := w_link W c3
    have hln := (m_suf_drop q1).2
    have hyq : m_yh (q :: r') ≤ m_yh r := m_yh_suf q1
    have hyq1 : m_yh (q :: r') = m_yh r' + 1 := m_yh_1 (by omega) (by omega)
    have Yq := (yL_suf YrB q1).1
    have Yq' := (yF_A (f := q) (r := r') (by omega) (by omega) (by omega)).mp Yq
    have ycell : c_node (m_yh r') = nI (fr_nd q) ∧ c_act (m_yh r') = nI (fr_ev q) := by
      obtain ⟨⟨nd', ev', ph', rm'⟩, ⟨gt', x0', x1', x2'⟩, ⟨la', bv', bx', ty'⟩, dt', sc', sr', tg', pl'⟩ := q
      exact ⟨Yq'.1, Yq'.2.1⟩
    have hVn := Q.1
    have he := Q.2.1
    have m4 := (G.1 _ hVn).2.2.2.1
    have hopq := ((Yt.1 _ hVn).2.2.1 (by omega)).2
    have hat : y_at r r'.length = m_yh r' := y_at_len q1
    have e0 : m_srch g ((nd, ev, ph, rm), (gt, x0, x1, x2), (la, bv, bx, ty), dt, sc, sr, tg, pl) r s = if gO g (fr_nd q) = 17 then (3, dt, some r'.length, 0, 0, ((nd, ev, ph, rm), (gt, x0, x1, x2), (la, bv, bx, ty), dt, sc, sr, tg, pl) :: r, s)
        else if gF g ≤ sBe s then (6, 0, none, 0, 0, ((nd, ev, ph, rm), (gt, x0, x1, x2), (la, bv, bx, ty), dt, m_ch g r', r'.length, tg, pl) :: r, s)
        else m_ev g ((gK g (fr_nd q)).getD 0 0) (fr_ev q) (((fr_nd q, fr_ev q, 7, []), (0, 0, 0, 0), (0, m_cv g (fr_nd q), dt, 0), 0, m_ch g r', 0, none, 0) :: ((nd, ev, ph, rm), (gt, x0, x1, x2), (la, bv, bx, ty), dt, m_ch g r', r'.length, tg, pl) :: r) (m_cs g (fr_nd q) (fr_ev q) dt (s_be s (sBe s + 1))) := by
      unfold m_srch
      rw [show m_sf g (fr_ty ((nd, ev, ph, rm), (gt, x0, x1, x2), (la, bv, bx, ty), dt, sc, sr, tg, pl)) (fr_sc ((nd, ev, ph, rm), (gt, x0, x1, x2), (la, bv, bx, ty), dt, sc, sr, tg, pl)) = some ((r'.length, fr_nd q, fr_ev q), m_ch g r') from hmf]
      rfl
    refine br_t (nI_pos' (by omega)) ⟨vp_in_nI (by omega) (by decide), ?_⟩
    rw [nI_clamp (n := m_yh r') (by omega), ycell.1]
    refine ⟨vp_in_nI m4 (by decide), ?_⟩
    rw [nI_clamp (n := fr_nd q) (by omega), hopq]
    refine fb_if (nI_eq (b := 17) (by omega) (by decide)) (fun o => ?_) (fun o => ?_)
    · rw [if_pos o] at e0
      refine ⟨vp_in_nI hkle.2 (by decide), ?_⟩
      rw [nI_clamp (n := k) (by omega), j3]
      refine h _ ?_
      rw [e0]
      refine Or.inl ⟨oc, sBe s, k + 1, ret, nI (m_yh r'), dt, xy, xp, 0, 1, gv, gh, _, _, _, _, _, _, _, _, _, _, _, _, _, _, _, hg, fun _ => ⟨hk1.symm, YF0⟩, fun z => (by cases z), fun z => (by cases z), fun z => (by cases z), fun _ => ⟨rfl, rfl, rfl, ?_, fun z => (by cases z)⟩, fun _ => rfl, rfl⟩
      show nI (m_yh r') = nI (y_at (((nd, ev, ph, rm), (gt, x0, x1, x2), (la, bv, bx, ty), dt, sc, sr, tg, pl) :: r) r'.length)
      rw [y_at_len (q1.trans (List.suffix_cons _ _))]
    · rw [if_neg o] at e0
      have hO16 : gO g (fr_nd q) = 16 := by omega
      refine y_beat hs.1 hF (fun w => ?_) (fun w => ?_)
      · rw [if_neg (by omega)] at e0
        obtain ⟨cl1, cl2, cl3⟩ := w_cl G hVn (by omega) (by omega)
        have Fs := w_srFs (h := r'.length) (t := m_ch g r') (n := fr_nd q) (e := fr_ev q) hp F W c3 q1 rfl q5 rfl
        have F7' : w_f g V Z pa 1 ((fr_nd q, fr_ev q, 7, []), (0, 0, 0, 0), (0, m_cv g (fr_nd q), dt, 0), 0, m_ch g r', 0, none, 0) (((nd, ev, ph, rm), (gt, x0, x1, x2), (la, bv, bx, ty), dt, m_ch g r', r'.length, tg, pl) :: r) := w_srF7 (sc := sc) (sr := sr) G hp q1 rfl rfl Q hO16
        have Iq := w_srI G F hp c3 hO16
        have hw12 := (G.1 _ hVn).2.2.2.2.2.2.2.2.2.1 (by omega) (by omega)
        have hnb := (Yt.1 _ hVn).2.2.2.2 (by omega) (by omega)
        have hyl : m_yh (((fr_nd q, fr_ev q, 7, []), (0, 0, 0, 0), (0, m_cv g (fr_nd q), dt, 0), 0, m_ch g r', 0, none, 0) :: ((nd, ev, ph, rm), (gt, x0, x1, x2), (la, bv, bx, ty), dt, m_ch g r', r'.length, tg, pl) :: r) = k + 1 := hk1
        refine br_f (by decide) ?_
        refine yy_w (nI (m_yh r') - 1) hkle.2 (y_sm1 (by omega)) ?_
        refine yy_w (nI (m_yh r')) hkle.2 (fb_short (by omega)) ?_
        refine ⟨vp_in_nI hkle.2 (by decide), ?_⟩
        rw [nI_clamp (n := k) (by omega), j3]
        have gl1 := m_cs_gl (g := g) (n := fr_nd q) (e := fr_ev q) (v := dt) (s := s_be s (sBe s + 1))
        have sbe : sBe (m_cs g (fr_nd q) (fr_ev q) dt (s_be s (sBe s + 1))) = sBe s + 1 := gl1.2
        have EVAL : ∀ (bv' bl' : Nat → Int32) (s' : St), s' = m_cs g (fr_nd q) (fr_ev q) dt (s_be s (sBe s + 1)) → yE k bv' (upd c_bVar k (-1)) → yE k bl' c_bVal → bv' k = y_bv (m_cv g (fr_nd q)) → (m_cv g (fr_nd q) ≠ 0 → bl' k = dt) → wpY_evaluate P (yU g h_count h_open h_types c_sort c_op c_na c_nb c_up c_val c_size c_params c_parent (y_z0 oc) 1 (sBe s + 1) s' (k + 1) ret xt xv xy xp 0 0 gv gh c_node (upd c_got k (nI (m_yh r') - 1)) (upd c_handle k (nI (m_yh r'))) c_pTarget c_pPlace c_act c_mode (bv') c_pType c_v0 c_v1 c_v2 c_last (bl') c_pVal) (nI ((gK g (fr_nd q)).getD 0 0)) (nI (fr_ev q)) := by
          intro bv' bl' s' hs' e1 e2 e3 e4
          subst hs'
          have := y_ev (P := P) (oc := oc) (ret := ret) (xt := xt) (xv := xv) (xy := xy) (xp := xp) (gv := gv) (gh := gh) (c_node := c_node) (c_got := upd c_got k (nI (m_yh r') - 1)) (c_handle := upd c_handle k (nI (m_yh r'))) (c_pTarget := c_pTarget) (c_pPlace := c_pPlace) (c_act := c_act) (c_mode := c_mode) (c_bVar := bv') (c_pType := c_pType) (c_v0 := c_v0) (c_v1 := c_v1) (c_v2 := c_v2) (c_last := c_last) (c_bVal := bl') (c_pVal := c_pVal) (l := ((fr_nd q, fr_ev q, 7, []), (0, 0, 0, 0), (0, m_cv g (fr_nd q), dt, 0), 0, m_ch g r', 0, none, 0) :: ((nd, ev, ph, rm), (gt, x0, x1, x2), (la, bv, bx, ty), dt, m_ch g r', r'.length, tg, pl) :: r) (s := m_cs g (fr_nd q) (fr_ev q) dt (s_be s (sBe s + 1))) G Yt cl1 he ⟨F7', Fs, W⟩ (fun q r' e => by injection e with e _; rw [← e]; exact ⟨by show (7 : Nat) ≠ 4; decide, by show (7 : Nat) ≠ 8; decide⟩) Iq (by rw [sbe]; omega) (by rw [gl1.1]; exact hg) ⟨?_, ?_, ?_⟩ (fun u' hu => h u' (by rw [e0]; exact hu))
          · rw [sbe, hyl] at this
            exact this
          · show bv' (m_yh (((nd, ev, ph, rm), (gt, x0, x1, x2), (la, bv, bx, ty), dt, m_ch g r', r'.length, tg, pl) :: r) - 1) = y_bv (m_cv g (fr_nd q)) ∧ (m_cv g (fr_nd q) ≠ 0 → bl' (m_yh (((nd, ev, ph, rm), (gt, x0, x1, x2), (la, bv, bx, ty), dt, m_ch g r', r'.length, tg, pl) :: r) - 1) = dt) ∧ ∀ q2 r2, ((nd, ev, ph, rm), (gt, x0, x1, x2), (la, bv, bx, ty), dt, m_ch g r', r'.length, tg, pl) :: r = q2 :: r2 → upd c_handle k (nI (m_yh r')) (m_yh (((nd, ev, ph, rm), (gt, x0, x1, x2), (la, bv, bx, ty), dt, m_ch g r', r'.length, tg, pl) :: r) - 1) = nI (y_at r2 (fr_sr q2))
            have ekk : m_yh (((nd, ev, ph, rm), (gt, x0, x1, x2), (la, bv, bx, ty), dt, m_ch g r', r'.length, tg, pl) :: r) - 1 = k := by
              have : m_yh (((nd, ev, ph, rm), (gt, x0, x1, x2), (la, bv, bx, ty), dt, m_ch g r', r'.length, tg, pl) :: r) = k + 1 := hk1
              omega
            rw [ekk]
            refine ⟨e3, e4, fun q2 r2 e => ?_⟩
            injection e with ea eb
            rw [← ea, ← eb, pk_us]
            show nI (m_yh r') = nI (y_at r r'.length)
            rw [hat]
          · refine YFk (yE_u yE_r (Nat.le_refl _)) (Or.inl ?_) (fun p4 => ?_) (fun z => by omega)
            · rw [pk_us, hat]
            · rw [e1 _ (by have := hkr p4; omega), pk_un (by have := hkr p4; omega)]
              exact hbvr p4
          · exact yL_keep W YrB yE_r (yE_u yE_r hkle.1) (yE_u yE_r hkle.1) yE_r yE_r yE_r yE_r (yE_le e1 hkle.1) yE_r yE_r yE_r yE_r yE_r (yE_le e2 hkle.1) yE_r
        have hle1 : 1 ≤ (gK g (fr_nd q)).length := fo_lst (G.1 _ hVn) (by omega) (by rw [hO16]; rfl)
        refine ⟨vp_in_nI (by omega) (by decide), ?_⟩
        rw [nI_clamp (n := m_yh r') (by omega), ycell.1]
        refine ⟨vp_in_nI m4 (by decide), ?_⟩
        rw [nI_clamp (n := fr_nd q) (by omega), hnb]
        refine nm_e ?_
        by_cases b8 : gB g (fr_nd q) < 8
        · refine br_f (nI_ge (b := 8) b8 (by decide)) ⟨vp_in_nI (by omega) (by decide), ?_⟩
          rw [ycell.2]
          have ei : 8 * nI (fr_ev q) + nI (gB g (fr_nd q)) = nI (8 * fr_ev q + gB g (fr_nd q)) := by
            rw [show (8 : Int32) = nI 8 from rfl, pk_mul, nI_add]
          rw [ei]
          refine ⟨vp_in_nI (by omega) (by decide), ?_⟩
          rw [nI_clamp (n := 8 * fr_ev q + gB g (fr_nd q)) (by omega)]
          refine nm_e ⟨vp_in_nI (by omega) (by decide), ?_⟩
          rw [ycell.1]
          refine Yt.2.2.1 _ hVn 0 (by decide) _ _ _ _ _ _ _ _ _ _ _ _ _ _ _ _ _ _ _ _ _ _ _ _ _ _ _ _ _ _ _ _ _ _ _ _ _ _ _ ?_
          refine ⟨vp_in_nI (by omega) (by decide), ?_⟩
          rw [fo_nx_g (by omega), ycell.2]
          have ecv : m_cv g (fr_nd q) = 0 := if_pos b8
          have ecs : m_cs g (fr_nd q) (fr_ev q) dt (s_be s (sBe s + 1)) = s_lo (s_be s (sBe s + 1)) (upd (sLo s) (8 * fr_ev q + gB g (fr_nd q)) dt) := if_pos b8
          exact EVAL (upd c_bVar k (-1)) c_bVal (s_lo (s_be s (sBe s + 1)) (upd (sLo s) (8 * fr_ev q + gB g (fr_nd q)) dt)) ecs.symm yE_r yE_r (by rw [pk_us, ecv]; rfl) (fun z => absurd ecv z)
        · refine br_t (nI_le (a := 8) (by omega) (by omega)) ?_
          refine yy_w (nI (gB g (fr_nd q))) hkle.2 (fb_byte (by omega)) ?_
          refine yy_w dt hkle.2 rfl ?_
          refine ⟨vp_in_nI (by omega) (by decide), ?_⟩
          rw [ycell.1]
          refine Yt.2.2.1 _ hVn 0 (by decide) _ _ _ _ _ _ _ _ _ _ _ _ _ _ _ _ _ _ _ _ _ _ _ _ _ _ _ _ _ _ _ _ _ _ _ _ _ _ _ ?_
          refine ⟨vp_in_nI (by omega) (by decide), ?_⟩
          rw [fo_nx_g (by omega), ycell.2]
          have ecv : m_cv g (fr_nd q) = gB g (fr_nd q) := if_neg b8
          have ecs : m_cs g (fr_nd q) (fr_ev q) dt (s_be s (sBe s + 1)) = s_be s (sBe s + 1) := if_neg b8
          refine EVAL (upd (upd c_bVar k (-1)) k (nI (gB g (fr_nd q)))) (upd c_bVal k dt) (s_be s (sBe s + 1)) ecs.symm (yE_u yE_r (Nat.le_refl _)) (yE_u yE_r (Nat.le_refl _)) ?_ (fun _ => pk_us)
          rw [pk_us, ecv]
          unfold y_bv
          rw [if_neg (by omega)]
      · rw [if_pos w] at e0
        refine br_t rfl ?_
        refine h _ ?_
        rw [e0]
        exact Or.inl ⟨oc, sBe s, k + 1, ret, xt, xv, xy, xp, 0, 0, gv, gh, c_node, c_got, c_handle, c_pTarget, c_pPlace, c_act, c_mode, upd c_bVar k (-1), c_pType, c_v0, c_v1, c_v2, c_last, c_bVal, c_pVal, hg, fun z => absurd z (by show ¬ 6 < 4; decide), fun z => (by cases z), fun z => (by cases z), fun z => (by cases z), fun z => (by cases z), fun _ => rfl, rfl⟩
  have hsufd : r.drop (r.length - sr) <:+ r := List.drop_suffix _ _
  have hyd := m_yh_suf hsufd
  have MAIN : ∀ n, m_yh (r.drop (r.length - sr)) < n → wY_search_19 P (nI k) (nI (gD g)) (nI (gF g)) h_count h_open h_types (nI (k + 1)) ret xt xv xy xp 0 0 1 ((y_z0 oc).1) ((y_z0 oc).2.1) ((y_z0 oc).2.2.1) ((y_z0 oc).2.2.2.1) ((y_z0 oc).2.2.2.2) (nI (sBe s)) (nI (sPr s)) c_sort c_op c_na c_nb c_up c_val c_size c_params c_parent gv (sCe s) (sLo s) gh c_node c_got c_handle c_pTarget c_pPlace c_act c_mode (upd c_bVar k (-1)) c_pType c_v0 c_v1 c_v2 c_last c_bVal c_pVal (sOu s) n (nI (y_at r sr) - 1) := by
    intro n hn
    exact y_sl G Yt k ty hkle.2 s5 j2 (r.drop (r.length - sr)).length (r.drop (r.length - sr)) 1 (Nat.le_refl _) (w_l_suf W hsufd) hsufd s6 (yL_suf YrB hsufd) (by omega) (by rw [s3]; exact E116) (by rw [s3]; exact F116) n hn
  refine ⟨m_yh r + 2, ?_⟩
  rcases hkG with z | ⟨p4, z2, z3⟩
  · rw [z]
    exact MAIN _ (by omega)
  · rw [z3, wY_search_19]
    rw [if_pos (show fr_ph ((nd, ev, ph, rm), (gt, x0, x1, x2), (la, bv, bx, ty), dt, sc, sr, tg, pl) = 4 from p4)] at Y1
    have hnode : c_node (m_yh r) = nI nd := Y1.1
    obtain ⟨o1, o2, o3, o4⟩ := op1617 p4
    have hop := ((Yt.1 nd f1).2.2.1 o1).2
    refine br_f (nI_pos (by omega)) ⟨vp_in_nI (by omega) (by decide), ?_⟩
    rw [nI_clamp (n := m_yh r) (by omega), hnode]
    refine br_t (nI_pos' (by omega)) ⟨vp_in_nI (by omega) (by decide), vp_in_nI n4 (by decide), ?_⟩
    rw [nI_clamp (n := nd) (by omega), hop]
    refine br_f (xx_ne (b := 16) o2 (by omega) (by decide)) ⟨vp_in_nI (by omega) (by decide), vp_in_nI n4 (by decide), ?_⟩
    refine br_f (xx_ne (b := 17) o3 (by omega) (by decide)) (nm_r (fo_m1 _) ?_)
    have := MAIN (m_yh r + 1) (by omega)
    have e : y_at r sr = m_yh r := by
      unfold y_at
      rw [z2, Nat.sub_self]; rfl
    rw [e] at this
    exact this
end
