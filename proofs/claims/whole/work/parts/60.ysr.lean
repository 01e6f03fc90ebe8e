/-! the reference's side: searching for a clause -/
section
variable {g : mG} {V : Nat → Prop} {Z : Nat → Nat} {pa : Nat → Option Nat} {T : Nat} {h_count h_open h_types : Int32} {c_sort c_op c_na c_nb c_up c_val c_size c_params c_parent : Nat → Int32} {s : St} {oc ret xt xv xy xp ha exi v : Int32} {be : Nat} {gv gh : Nat → Int32} {c_node c_got c_handle c_pTarget c_pPlace c_act c_mode c_bVar c_pType c_v0 c_v1 c_v2 c_last c_bVal c_pVal : Nat → Int32} {l r : List Fr} {f : Fr} {P : SY → Prop} {post : Int32 → SY → Prop} {N i p q : Nat}
theorem m_yh_suf : ∀ {l l' : List Fr}, l' <:+ l → m_yh l' ≤ m_yh l
  | [], l', h => by rw [List.suffix_nil.mp h]; exact Nat.le_refl _
  | f :: r, l', h => by
    rcases List.suffix_cons_iff.mp h with z | z
    · rw [z]; exact Nat.le_refl _
    · have := m_yh_suf z
      have hm := m_yh_p (f := f) (r := r)
      omega
theorem w_1617 {f : Fr} {w : Nat} (h : w_lk g w f) (o : gO g (fr_nd f) = 16 ∨ gO g (fr_nd f) = 17) : fr_ph f = 1 ∨ fr_ph f = 5 ∨ fr_ph f = 7 := by
  obtain ⟨⟨nd, ev, ph, rm⟩, ⟨gt, x0, x1, x2⟩, ⟨la, bv, bx, ty⟩, dt, sc, sr, tg, pl⟩ := f
  have o : gO g nd = 16 ∨ gO g nd = 17 := o
  show ph = 1 ∨ ph = 5 ∨ ph = 7
  rcases h with h | h | h | h | h | h | h | h | h | h <;> omega
theorem w_l_suf : ∀ {l l' : List Fr}, w_l g V Z pa 1 l → l' <:+ l → w_l g V Z pa 1 l'
  | [], l', _, h => by rw [List.suffix_nil.mp h]; trivial
  | f :: r, l', W, h => by
    rcases List.suffix_cons_iff.mp h with z | z
    · rw [z]; exact W
    · exact w_l_suf W.2 z
theorem yL_suf : ∀ {l l' : List Fr}, yL g c_node c_got c_handle c_pTarget c_pPlace c_act c_mode c_bVar c_pType c_v0 c_v1 c_v2 c_last c_bVal c_pVal l → l' <:+ l → yL g c_node c_got c_handle c_pTarget c_pPlace c_act c_mode c_bVar c_pType c_v0 c_v1 c_v2 c_last c_bVal c_pVal l'
  | [], l', _, h => by rw [List.suffix_nil.mp h]; trivial
  | f :: r, l', Y, h => by
    rcases List.suffix_cons_iff.mp h with z | z
    · rw [z]; exact Y
    · exact yL_suf Y.2 z
theorem y_isa {h_depth h_fuel h_sp h_ret h_xTarget h_xVal h_xType h_xPlace h_have h_exiting h_running h_outcome h_value h_error h_datum h_place h_beats h_printed : Int32} {c_global c_cells c_locals c_has c_node c_got c_handle c_pTarget c_pPlace c_act c_mode c_bVar c_pType c_v0 c_v1 c_v2 c_last c_bVal c_pVal c_out : Nat → Int32} (Yt : yT g V h_count h_open h_types c_sort c_op c_na c_nb c_up c_val c_size c_params c_parent) {Q : Int32 → Prop} (t a : Nat) (ht : t ≤ 15) (ha1 : 1 ≤ a) (ha : a ≤ 15) (h : Q (if gI g t a = true then 1 else 0)) : wpY_isA Q (h_depth, h_fuel, h_count, h_open, h_types, h_sp, h_ret, h_xTarget, h_xVal, h_xType, h_xPlace, h_have, h_exiting, h_running, h_outcome, h_value, h_error, h_datum, h_place, h_beats, h_printed, c_sort, c_op, c_na, c_nb, c_up, c_val, c_size, c_params, c_parent, c_global, c_cells, c_locals, c_has, c_node, c_got, c_handle, c_pTarget, c_pPlace, c_act, c_mode, c_bVar, c_pType, c_v0, c_v1, c_v2, c_last, c_bVal, c_pVal, c_out) (nI t) (nI a) := by
  obtain ⟨_, _, _, _, _, pt, h1, h2⟩ := Yt
  rw [h2 t a ht] at h
  exact ⟨17, y_isa5 h1 a ha1 ha 16 t 0 17 (by omega) (by omega) (by omega) h⟩
theorem y_sl {h_depth h_fuel h_sp h_ret h_xTarget h_xVal h_xType h_xPlace h_have h_exiting h_running h_outcome h_value h_error h_datum h_place h_beats h_printed : Int32} {c_global c_cells c_locals c_has c_node c_got c_handle c_pTarget c_pPlace c_act c_mode c_bVar c_pType c_v0 c_v1 c_v2 c_last c_bVal c_pVal c_out : Nat → Int32} (G : g_w g V Z pa T) (Yt : yT g V h_count h_open h_types c_sort c_op c_na c_nb c_up c_val c_size c_params c_parent) (k ty : Nat) (hk : k < 520) (hty : ty ≤ 15) (hv0 : c_v0 k = nI ty) {L0 : List Fr} : ∀ (L : Nat) (l : List Fr) (w : Nat), l.length ≤ L → w_l g V Z pa w l → l <:+ L0 → (∀ q r', l = q :: r' → fr_ph q ≠ 4 ∧ fr_ph q ≠ 8) → yL g c_node c_got c_handle c_pTarget c_pPlace c_act c_mode c_bVar c_pType c_v0 c_v1 c_v2 c_last c_bVal c_pVal l → m_yh l ≤ 520 → (m_sf g ty (m_ch g l) = none → wY_search_116 P (nI k) (-1) h_depth h_fuel h_count h_open h_types h_sp h_ret h_xTarget h_xVal h_xType h_xPlace h_have h_exiting h_running h_outcome h_value h_error h_datum h_place h_beats h_printed c_sort c_op c_na c_nb c_up c_val c_size c_params c_parent c_global c_cells c_locals c_has c_node c_got c_handle c_pTarget c_pPlace c_act c_mode c_bVar c_pType c_v0 c_v1 c_v2 c_last c_bVal c_pVal c_out) → (∀ q r', (q :: r') <:+ L0 → fr_ph q = 1 → m_sf g ty (m_ch g l) = some ((r'.length, fr_nd q, fr_ev q), m_ch g r') → wY_search_116 P (nI k) (nI (m_yh r')) h_depth h_fuel h_count h_open h_types h_sp h_ret h_xTarget h_xVal h_xType h_xPlace h_have h_exiting h_running h_outcome h_value h_error h_datum h_place h_beats h_printed c_sort c_op c_na c_nb c_up c_val c_size c_params c_parent c_global c_cells c_locals c_has c_node c_got c_handle c_pTarget c_pPlace c_act c_mode c_bVar c_pType c_v0 c_v1 c_v2 c_last c_bVal c_pVal c_out) → ∀ n, m_yh l < n → wY_search_19 P (nI k) h_depth h_fuel h_count h_open h_types h_sp h_ret h_xTarget h_xVal h_xType h_xPlace h_have h_exiting h_running h_outcome h_value h_error h_datum h_place h_beats h_printed c_sort c_op c_na c_nb c_up c_val c_size c_params c_parent c_global c_cells c_locals c_has c_node c_got c_handle c_pTarget c_pPlace c_act c_mode c_bVar c_pType c_v0 c_v1 c_v2 c_last c_bVal c_pVal c_out n (nI (m_yh l) - 1)
  | _, _, _, _, _, _, _, _, _, _, _, 0, hn => by omega
  | _, [], _, _, _, _, _, _, _, h1, _, n + 1, hn => by
    rw [wY_search_19]
    exact br_t (by decide) (h1 rfl)
  | 0, f :: r, _, hL, _, _, _, _, _, _, _, n + 1, hn => absurd hL (by simp)
  | L + 1, f :: r, w, hL, W, hsuf, hq, Y, h5, h1, h2, n + 1, hn => by
    have hL : r.length + 1 ≤ L + 1 := hL
    obtain ⟨h4, h8⟩ := hq f r rfl
    have hm := m_yh_p (f := f) (r := r)
    have hr : r <:+ L0 := (List.suffix_cons f r).trans hsuf
    have Y1 := Y.1
    unfold yF at Y1
    have hch : m_ch g (f :: r) = if fr_ph f = 7 then fr_sc f else if fr_ph f = 1 ∧ (gO g (fr_nd f) = 16 ∨ gO g (fr_nd f) = 17) then (r.length, fr_nd f, fr_ev f) :: m_ch g r else m_ch g r := rfl
    by_cases p7 : fr_ph f = 7
    · rw [if_pos p7] at Y1 hm
      rw [if_pos p7] at hch
      obtain ⟨q0, r0, e0, p0, s0⟩ := W.1.2.2.2.2.2.1 p7
      subst e0
      obtain ⟨g7, g6, g1, g3⟩ := w_48 p0
      obtain ⟨t1, t2, t3, t4, t5, t6⟩ := W.2.1.2.2.2.2.1 p0
      have hq0 := m_yh_p (f := q0) (r := r0)
      rw [if_neg g7] at hq0
      have hp : m_yh r0 + 1 ≤ m_yh (q0 :: r0) := by
        rw [hq0]
        split <;> omega
      rw [hm, Nat.add_zero] at h5 hn ⊢
      obtain ⟨j, hj⟩ : ∃ j, m_yh (q0 :: r0) = j + 1 := ⟨m_yh (q0 :: r0) - 1, by omega⟩
      have hnode : c_node j = -1 := by
        have Y2 := Y.2.1
        unfold yF at Y2
        rw [if_neg g7] at Y2
        by_cases q4 : fr_ph q0 = 4
        · rw [if_pos q4] at Y2 hq0
          have : j = m_yh r0 + 1 := by omega
          rw [this]; exact Y2.2.2.2.1
        · rw [if_neg q4] at Y2 hq0
          have q8 : fr_ph q0 = 8 := by omega
          rw [if_pos q8] at Y2
          have : j = m_yh r0 := by omega
          rw [this]; exact Y2.1
      have hhan : c_handle j = nI (y_at r0 (fr_sr q0)) := by
        have := Y1.2.2 q0 r0 rfl
        rw [hj] at this
        exact this
      rw [hj] at h5 hn ⊢
      have hsufd : r0.drop (r0.length - fr_sr q0) <:+ r0 := List.drop_suffix _ _
      have hyd := m_yh_suf hsufd
      rw [nI_pred, wY_search_19]
      refine br_f (nI_pos (by omega)) ⟨vp_in_nI (by omega) (by decide), ?_⟩
      rw [nI_clamp (n := j) (by omega), hnode]
      refine br_f (by decide) ⟨vp_in_nI (by omega) (by decide), ?_⟩
      rw [hhan]
      refine nm_e (nm_r (fo_m1 _) ?_)
      have hch2 : m_ch g (f :: q0 :: r0) = m_ch g (r0.drop (r0.length - fr_sr q0)) := by rw [hch, t3, s0]
      rw [hch2] at h1 h2
      have Wd : w_l g V Z pa 1 (r0.drop (r0.length - fr_sr q0)) := w_l_suf W.2.2 hsufd
      have Yd : yL g c_node c_got c_handle c_pTarget c_pPlace c_act c_mode c_bVar c_pType c_v0 c_v1 c_v2 c_last c_bVal c_pVal (r0.drop (r0.length - fr_sr q0)) := yL_suf Y.2.2 hsufd
      refine y_sl G Yt k ty hk hty hv0 L _ 1 ?_ Wd (hsufd.trans ((List.suffix_cons q0 r0).trans hr)) t6 Yd (by omega) h1 h2 n (by omega)
      have := hsufd.length_le
      have hL : r0.length + 1 + 1 ≤ L + 1 := hL
      omega
    · rw [if_neg p7, if_neg h4, if_neg h8] at Y1
      rw [if_neg p7] at hch
      rw [if_neg p7, if_neg h4] at hm
      rw [hm] at h5 hn ⊢
      have hf1 := W.1.1
      have hn4 := (G.1 _ hf1).2.2.2.1
      have hO := w_lsO W.1.2.2.1 h8
      have hop := ((Yt.1 _ hf1).2.2.1 hO).2
      have ycell : c_node (m_yh r) = nI (fr_nd f) ∧ c_mode (m_yh r) = if fr_ph f = 3 ∨ fr_ph f = 5 ∨ fr_ph f = 6 then 1 else 0 := by
        obtain ⟨⟨nd, ev, ph, rm⟩, ⟨gt, x0, x1, x2⟩, ⟨la, bv, bx, ty⟩, dt, sc, sr, tg, pl⟩ := f
        exact ⟨Y1.1, Y1.2.2.2.1⟩
      have NEXT : ¬ (fr_ph f = 1 ∧ (gO g (fr_nd f) = 16 ∨ gO g (fr_nd f) = 17)) → wY_search_19 P (nI k) h_depth h_fuel h_count h_open h_types h_sp h_ret h_xTarget h_xVal h_xType h_xPlace h_have h_exiting h_running h_outcome h_value h_error h_datum h_place h_beats h_printed c_sort c_op c_na c_nb c_up c_val c_size c_params c_parent c_global c_cells c_locals c_has c_node c_got c_handle c_pTarget c_pPlace c_act c_mode c_bVar c_pType c_v0 c_v1 c_v2 c_last c_bVal c_pVal c_out n (nI (m_yh r) - 1) := by
        intro z
        rw [if_neg z] at hch
        rw [hch] at h1 h2
        exact y_sl G Yt k ty hk hty hv0 L r 1 (by omega) W.2 hr (W.1.2.2.2.2.2.2.1 p7) Y.2 (by omega) h1 h2 n (by omega)
      have S74 : gO g (fr_nd f) = 16 ∨ gO g (fr_nd f) = 17 → wY_search_74 P (wY_search_19 P (nI k) h_depth h_fuel h_count h_open h_types h_sp h_ret h_xTarget h_xVal h_xType h_xPlace h_have h_exiting h_running h_outcome h_value h_error h_datum h_place h_beats h_printed c_sort c_op c_na c_nb c_up c_val c_size c_params c_parent c_global c_cells c_locals c_has c_node c_got c_handle c_pTarget c_pPlace c_act c_mode c_bVar c_pType c_v0 c_v1 c_v2 c_last c_bVal c_pVal c_out n) (nI k) (nI (m_yh r)) h_depth h_fuel h_count h_open h_types h_sp h_ret h_xTarget h_xVal h_xType h_xPlace h_have h_exiting h_running h_outcome h_value h_error h_datum h_place h_beats h_printed c_sort c_op c_na c_nb c_up c_val c_size c_params c_parent c_global c_cells c_locals c_has c_node c_got c_handle c_pTarget c_pPlace c_act c_mode c_bVar c_pType c_v0 c_v1 c_v2 c_last c_bVal c_pVal c_out := by
        intro o
        refine ⟨vp_in_nI (by omega) (by decide), ?_⟩
        rw [nI_clamp (n := m_yh r) (by omega), ycell.2]
        by_cases p1 : fr_ph f = 1
        · rw [if_neg (by omega)]
          rw [if_pos ⟨p1, o⟩] at hch
          have hA := ((G.1 _ hf1).2.2.2.2.2.2.2.2.1 hO).2.2.2.1 (by omega)
          have hT : T ≤ 15 := G.2.2.2.2.2.2.2.1
          refine br_t rfl ⟨vp_in_nI hk (by decide), vp_in_nI (by omega) (by decide), ?_⟩
          rw [ycell.1]
          refine ⟨vp_in_nI hn4 (by decide), ?_⟩
          rw [nI_clamp (n := k) (by omega), hv0, nI_clamp (n := fr_nd f) (by omega), (Yt.1 _ hf1).2.2.2.1 (by unfold fo_ma; omega)]
          refine y_isa Yt ty _ hty hA.1 (by omega) ?_
          have hm2 : m_sf g ty ((r.length, fr_nd f, fr_ev f) :: m_ch g r) = if gI g ty (gA g (fr_nd f)) = true then some ((r.length, fr_nd f, fr_ev f), m_ch g r) else m_sf g ty (m_ch g r) := rfl
          rw [hch, hm2] at h1 h2
          by_cases z : gI g ty (gA g (fr_nd f)) = true
          · rw [if_pos z] at h2 ⊢
            exact br_f (by decide) (h2 f r hsuf p1 rfl)
          · rw [if_neg z] at h1 h2 ⊢
            refine br_t rfl (nm_r (fo_m1 _) ?_)
            exact y_sl G Yt k ty hk hty hv0 L r 1 (by omega) W.2 hr (W.1.2.2.2.2.2.2.1 p7) Y.2 (by omega) h1 h2 n (by omega)
        · have p5 : fr_ph f = 3 ∨ fr_ph f = 5 ∨ fr_ph f = 6 := by
            have := w_1617 W.1.2.2.1 o
            omega
          rw [if_pos p5]
          exact br_f (by decide) (nm_r (fo_m1 _) (NEXT (fun z => p1 z.1)))
      rw [nI_pred, wY_search_19]
      refine br_f (nI_pos (by omega)) ⟨vp_in_nI (by omega) (by decide), ?_⟩
      rw [nI_clamp (n := m_yh r) (by omega), ycell.1]
      refine br_t (nI_pos' (by omega)) ⟨vp_in_nI (by omega) (by decide), vp_in_nI hn4 (by decide), ?_⟩
      rw [nI_clamp (n := fr_nd f) (by omega), hop]
      refine fb_if (nI_eq (b := 16) (by omega) (by decide)) (fun o => S74 (Or.inl o)) (fun o => ⟨vp_in_nI (by omega) (by decide), vp_in_nI hn4 (by decide), ?_⟩)
      refine fb_if (nI_eq (b := 17) (by omega) (by decide)) (fun o2 => S74 (Or.inr o2)) (fun o2 => nm_r (fo_m1 _) (NEXT (fun z => by omega)))
end
