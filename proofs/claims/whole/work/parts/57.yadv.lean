/-! the reference's side: going on with a list -/
section
variable {g : mG} {V : Nat → Prop} {Z : Nat → Nat} {pa : Nat → Option Nat} {T : Nat} {h_count h_open h_types : Int32} {c_sort c_op c_na c_nb c_up c_val c_size c_params c_parent : Nat → Int32} {s : St} {oc ret xt xv xy xp ha exi v : Int32} {be : Nat} {gv gh : Nat → Int32} {c_node c_got c_handle c_pTarget c_pPlace c_act c_mode c_bVar c_pType c_v0 c_v1 c_v2 c_last c_bVal c_pVal : Nat → Int32} {l r : List Fr} {f : Fr} {P : SY → Prop} {post : Int32 → SY → Prop} {N i p q : Nat}
theorem w_prc (G : g_w g V Z pa T) {nd ev ph gt bv ty sr : Nat} {x0 x1 x2 la bx dt pl : Int32} {sc : List (Nat × Nat × Nat)} {tg : Option Nat} {c : Nat} {cs : List Nat} (F : w_f g V Z pa 0 ((nd, ev, ph, c :: cs), (gt, x0, x1, x2), (la, bv, bx, ty), dt, sc, sr, tg, pl) r) : V c ∧ w_f g V Z pa 1 ((nd, ev, ph, cs), (gt, x0, x1, x2), (la, bv, bx, ty), dt, sc, sr, tg, pl) r ∧ w_iq g Z c (((nd, ev, ph, cs), (gt, x0, x1, x2), (la, bv, bx, ty), dt, sc, sr, tg, pl) :: r) ∧ ph < 4 ∧ c ∈ gK g nd := by
  obtain ⟨f1, f2, f3, f4, f5, f6, f7, f8, f9, f10⟩ := F
  have f1 : V nd := f1
  have N := G.1 nd f1
  obtain ⟨p1, p2⟩ := w_lk_ph f3
  obtain ⟨k1, k2, k3⟩ := w_ks G (n := nd) f1
  have hc : c ∈ gK g nd := by
    rcases w_lk_cons f3 with z | ⟨_, z, j, z1, z2⟩
    · exact z.2
    · have := fo_lst (k := 3) N (by omega) (by rw [z]; rfl)
      rw [z2]; exact fo_getj (by omega)
  have hl : w_lk g 1 ((nd, ev, ph, cs), (gt, x0, x1, x2), (la, bv, bx, ty), dt, sc, sr, tg, pl) := by
    rcases w_lk_cons f3 with z | z
    · exact z.1
    · exact z.1
  obtain ⟨n1, n2, n3, n4, n5, n6, n7, _⟩ := N
  obtain ⟨v1, v2⟩ := n5 c hc
  have hZc := fo_sum_mem (Z := Z) hc
  obtain ⟨i1, i2⟩ := f9 (by show ph ≠ 7; omega)
  have i1 : 2 * m_yh r + 3 * Z nd + 1 + w_kY g Z (m_ch g r) + 170 * (5 - m_fc r) ≤ 1040 := i1
  have i2 : 2 * r.length + 4 * Z nd + w_kX g Z (m_ch g r) + 224 * (5 - m_fc r) ≤ 1400 := i2
  have ey : m_yh (((nd, ev, ph, cs), (gt, x0, x1, x2), (la, bv, bx, ty), dt, sc, sr, tg, pl) :: r) = m_yh r + 1 := m_yh_1 (by show ph ≠ 7; omega) (by show ph ≠ 4; omega)
  have ef : m_fc (((nd, ev, ph, cs), (gt, x0, x1, x2), (la, bv, bx, ty), dt, sc, sr, tg, pl) :: r) = m_fc r := w_fc_ne (by show ph ≠ 6; omega)
  refine ⟨v1, ⟨f1, f2, hl, f4, f5, f6, f7, f8, f9, f10⟩, ?_, p1, hc⟩
  unfold w_iq
  rw [ey, ef]
  by_cases c1 : ph = 1 ∧ (gO g nd = 16 ∨ gO g nd = 17)
  · have ec : m_ch g (((nd, ev, ph, cs), (gt, x0, x1, x2), (la, bv, bx, ty), dt, sc, sr, tg, pl) :: r) = (r.length, nd, ev) :: m_ch g r := by
      show (if ph = 7 then sc else if ph = 1 ∧ (gO g nd = 16 ∨ gO g nd = 17) then (r.length, nd, ev) :: m_ch g r else m_ch g r) = _
      rw [if_neg (by omega), if_pos c1]
    rw [ec]
    have hh := w_lk_hs f3 c1.1 (by omega) (by omega)
    have h2 := fo_sum_two (Z := Z) (k := gt) hh.1.symm
    refine ⟨?_, ?_⟩
    · show 2 * (m_yh r + 1) + 3 * Z c + 1 + ((if gO g nd = 16 then 3 * Z ((gK g nd).getD 0 0) + 1 else 0) + w_kY g Z (m_ch g r)) + 170 * (5 - m_fc r) ≤ 1040
      split <;> omega
    · show 2 * (r.length + 1) + 4 * Z c + ((if gO g nd = 16 then 4 * Z ((gK g nd).getD 0 0) + 2 else 0) + w_kX g Z (m_ch g r)) + 224 * (5 - m_fc r) ≤ 1400
      split <;> omega
  · have ec : m_ch g (((nd, ev, ph, cs), (gt, x0, x1, x2), (la, bv, bx, ty), dt, sc, sr, tg, pl) :: r) = m_ch g r := by
      show (if ph = 7 then sc else if ph = 1 ∧ (gO g nd = 16 ∨ gO g nd = 17) then (r.length, nd, ev) :: m_ch g r else m_ch g r) = _
      rw [if_neg (by omega), if_neg c1]
    rw [ec]
    refine ⟨by omega, ?_⟩
    show 2 * (r.length + 1) + 4 * Z c + w_kX g Z (m_ch g r) + 224 * (5 - m_fc r) ≤ 1400
    omega
theorem fo_nx_d {l : List Nat} {k c : Nat} {cs : List Nat} (h : l.drop k = c :: cs) : fo_nx l k = nI c := by
  have hk : k < l.length := by
    rcases Nat.lt_or_ge k l.length with z | z
    · exact z
    · rw [List.drop_eq_nil_of_le z] at h; cases h
  rw [List.drop_eq_getElem_cons hk] at h
  injection h with h1 h2
  unfold fo_nx
  rw [List.getElem?_eq_getElem hk, h1]
theorem fo_nx_g {l : List Nat} {k : Nat} (h : k < l.length) : fo_nx l k = nI (l.getD k 0) := by
  unfold fo_nx
  rw [List.getD_eq_getElem?_getD, List.getElem?_eq_getElem h]
  rfl
/-- the next part is begun -/
theorem y_nxt (G : g_w g V Z pa T) (Yt : yT g V h_count h_open h_types c_sort c_op c_na c_nb c_up c_val c_size c_params c_parent) {nd ev ph gt bv ty sr : Nat} {x0 x1 x2 la bx dt pl : Int32} {sc : List (Nat × Nat × Nat)} {tg : Option Nat} {c : Nat} {cs : List Nat} (F : w_f g V Z pa 0 ((nd, ev, ph, c :: cs), (gt, x0, x1, x2), (la, bv, bx, ty), dt, sc, sr, tg, pl) r) (W : w_l g V Z pa 1 r) (hs : w_s g s) (hg : yGl gv gh (sGl s)) (YA : yA g c_node c_got c_handle c_pTarget c_pPlace c_act c_mode c_bVar c_pType c_v0 c_v1 c_v2 c_last c_bVal c_pVal True (m_yh r) ((nd, ev, ph, c :: cs), (gt, x0, x1, x2), (la, bv, bx, ty), dt, sc, sr, tg, pl) r) (Yr : yL g c_node c_got c_handle c_pTarget c_pPlace c_act c_mode c_bVar c_pType c_v0 c_v1 c_v2 c_last c_bVal c_pVal r) (h : ∀ u', yQ g V h_count h_open h_types c_sort c_op c_na c_nb c_up c_val c_size c_params c_parent (m_pro g ((nd, ev, ph, c :: cs), (gt, x0, x1, x2), (la, bv, bx, ty), dt, sc, sr, tg, pl) r s) u' → P u') : wpY_evaluate P (yU g h_count h_open h_types c_sort c_op c_na c_nb c_up c_val c_size c_params c_parent (y_z0 oc) 1 (sBe s) s (m_yh r + 1) ret xt xv xy xp 0 0 gv gh c_node c_got c_handle c_pTarget c_pPlace c_act c_mode c_bVar c_pType c_v0 c_v1 c_v2 c_last c_bVal c_pVal) (nI c) (nI ev) := by
  obtain ⟨v1, v2, v3, v4, v5⟩ := w_prc G F
  have ey : m_yh (((nd, ev, ph, cs), (gt, x0, x1, x2), (la, bv, bx, ty), dt, sc, sr, tg, pl) :: r) = m_yh r + 1 := m_yh_1 (by show ph ≠ 7; omega) (by show ph ≠ 4; omega)
  rw [← ey]
  refine y_ev (l := ((nd, ev, ph, cs), (gt, x0, x1, x2), (la, bv, bx, ty), dt, sc, sr, tg, pl) :: r) G Yt v1 F.2.1 ⟨v2, W⟩ (fun q r' e => by injection e with e _; rw [← e]; exact ⟨by show ph ≠ 4; omega, by show ph ≠ 8; omega⟩) v3 hs.1 hg ⟨?_, Yr⟩ h
  exact (yF_A (f := ((nd, ev, ph, cs), (gt, x0, x1, x2), (la, bv, bx, ty), dt, sc, sr, tg, pl)) (by show ph ≠ 7; omega) (by show ph ≠ 4; omega) (by show ph ≠ 8; omega)).mpr YA
theorem y_endp (G : g_w g V Z pa T) {nd ev ph gt bv ty sr : Nat} {x0 x1 x2 la bx dt pl : Int32} {sc : List (Nat × Nat × Nat)} {tg : Option Nat} (F : w_f g V Z pa 0 ((nd, ev, ph, []), (gt, x0, x1, x2), (la, bv, bx, ty), dt, sc, sr, tg, pl) r) (hO : gO g nd = 15) (hph : ph = 2 ∨ ph = 3) (hg : yGl gv gh (sGl s)) (YA : yA g c_node c_got c_handle c_pTarget c_pPlace c_act c_mode c_bVar c_pType c_v0 c_v1 c_v2 c_last c_bVal c_pVal True (m_yh r) ((nd, ev, ph, []), (gt, x0, x1, x2), (la, bv, bx, ty), dt, sc, sr, tg, pl) r) (Yr : yL g c_node c_got c_handle c_pTarget c_pPlace c_act c_mode c_bVar c_pType c_v0 c_v1 c_v2 c_last c_bVal c_pVal r) (h : ∀ u', yQ g V h_count h_open h_types c_sort c_op c_na c_nb c_up c_val c_size c_params c_parent (m_pro g ((nd, ev, ph, []), (gt, x0, x1, x2), (la, bv, bx, ty), dt, sc, sr, tg, pl) r s) u' → P u') : wpY_endProtect P (yU g h_count h_open h_types c_sort c_op c_na c_nb c_up c_val c_size c_params c_parent (y_z0 oc) 1 (sBe s) s (m_yh r + 1) ret xt xv xy xp 0 0 gv gh c_node c_got c_handle c_pTarget c_pPlace c_act c_mode c_bVar c_pType c_v0 c_v1 c_v2 c_last c_bVal c_pVal) (nI (m_yh r)) := by
  have f1 : V nd := F.1
  have hk : m_yh r ≤ 518 := y_len (F.2.2.2.2.2.2.2.2.1 (by show ph ≠ 7; omega)) (G.1 nd f1).2.1
  have hgt : 0 < gt := by
    obtain ⟨_, _, f3, _⟩ := F
    rcases f3 with h | h | h | h | h | h | h | h | h | h
    · omega
    · omega
    · omega
    · omega
    · exact h.2.2.1
    all_goals omega
  obtain ⟨a1, a2, a3, a4, a5, a6, a7, a8, a9, a10, a11⟩ := YA
  refine ⟨vp_in_nI (by omega) (by decide), ?_⟩
  rw [nI_clamp (by omega), a4]
  rcases hph with rfl | rfl
  · refine br_t rfl ⟨vp_in_nI (by omega) (by decide), ?_⟩
    rw [a6 (Or.inr (Or.inl rfl)) hgt]
    refine y_done (m_yh r) ?_
    exact h _ (y_dlv hg Yr)
  · obtain ⟨b1, b2, b3⟩ := a11 rfl
    refine br_f (by decide) ?_
    refine ⟨vp_in_nI (by omega) (by decide), nm_e ?_⟩
    refine ⟨vp_in_nI (by omega) (by decide), nm_e ?_⟩
    refine ⟨vp_in_nI (by omega) (by decide), vp_in_nI (by omega) (by decide), ?_⟩
    rw [b1, b2]
    refine nm_r (nI_pred (m_yh r)) ?_
    exact h _ (Or.inl ⟨oc, sBe s, m_yh r, ret, y_tg tg r, dt, c_pType (m_yh r), c_pPlace (m_yh r), 0, 1, gv, gh, c_node, c_got, c_handle, c_pTarget, c_pPlace, c_act, c_mode, c_bVar, c_pType, c_v0, c_v1, c_v2, c_last, c_bVal, c_pVal, hg, fun _ => ⟨rfl, Yr⟩, fun z => (by cases z), fun z => (by cases z), fun z => (by cases z), fun _ => ⟨rfl, rfl, rfl, rfl, b3⟩, fun _ => rfl, rfl⟩)
end
