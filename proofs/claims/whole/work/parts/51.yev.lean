/-! the reference's side: frames that stay, bindings, evaluating a node -/
def yE (n : Nat) (a b : Nat → Int32) : Prop := ∀ j, j < n → a j = b j
theorem yE_r {n : Nat} {a : Nat → Int32} : yE n a a := fun _ _ => rfl
theorem yE_u {n k : Nat} {a b : Nat → Int32} {v : Int32} (h : yE n a b) (hk : n ≤ k) : yE n (upd a k v) b := fun j hj => by rw [pk_un (by omega)]; exact h j hj
theorem yE_le {n m : Nat} {a b : Nat → Int32} (h : yE n a b) (hm : m ≤ n) : yE m a b := fun j hj => h j (by omega)
section
variable {g : mG} {V : Nat → Prop} {Z : Nat → Nat} {pa : Nat → Option Nat} {T : Nat} {h_count h_open h_types : Int32} {c_sort c_op c_na c_nb c_up c_val c_size c_params c_parent : Nat → Int32} {s : St} {oc ret xt xv xy xp ha exi v : Int32} {be : Nat} {gv gh : Nat → Int32} {c_node c_got c_handle c_pTarget c_pPlace c_act c_mode c_bVar c_pType c_v0 c_v1 c_v2 c_last c_bVal c_pVal : Nat → Int32} {l r : List Fr} {f : Fr} {P : SY → Prop} {post : Int32 → SY → Prop} {N i p q : Nat}
theorem m_yh_p {f : Fr} {r : List Fr} : m_yh (f :: r) = m_yh r + (if fr_ph f = 7 then 0 else if fr_ph f = 4 then 2 else 1) := rfl
theorem m_yh_1 {f : Fr} {r : List Fr} (h7 : fr_ph f ≠ 7) (h4 : fr_ph f ≠ 4) : m_yh (f :: r) = m_yh r + 1 := by
  rw [m_yh_p, if_neg h7, if_neg h4]
theorem yF_A {f : Fr} {r : List Fr} (h7 : fr_ph f ≠ 7) (h4 : fr_ph f ≠ 4) (h8 : fr_ph f ≠ 8) : yF g c_node c_got c_handle c_pTarget c_pPlace c_act c_mode c_bVar c_pType c_v0 c_v1 c_v2 c_last c_bVal c_pVal f r = yA g c_node c_got c_handle c_pTarget c_pPlace c_act c_mode c_bVar c_pType c_v0 c_v1 c_v2 c_last c_bVal c_pVal True (m_yh r) f r := by
  unfold yF
  rw [if_neg h7, if_neg h4, if_neg h8]
theorem yL_keep {c_node_q c_got_q c_handle_q c_pTarget_q c_pPlace_q c_act_q c_mode_q c_bVar_q c_pType_q c_v0_q c_v1_q c_v2_q c_last_q c_bVal_q c_pVal_q : Nat → Int32} : ∀ {l : List Fr} {w : Nat}, w_l g V Z pa w l → yL g c_node c_got c_handle c_pTarget c_pPlace c_act c_mode c_bVar c_pType c_v0 c_v1 c_v2 c_last c_bVal c_pVal l → yE (m_yh l) c_node_q c_node → yE (m_yh l) c_got_q c_got → yE (m_yh l) c_handle_q c_handle → yE (m_yh l) c_pTarget_q c_pTarget → yE (m_yh l) c_pPlace_q c_pPlace → yE (m_yh l) c_act_q c_act → yE (m_yh l) c_mode_q c_mode → yE (m_yh l) c_bVar_q c_bVar → yE (m_yh l) c_pType_q c_pType → yE (m_yh l) c_v0_q c_v0 → yE (m_yh l) c_v1_q c_v1 → yE (m_yh l) c_v2_q c_v2 → yE (m_yh l) c_last_q c_last → yE (m_yh l) c_bVal_q c_bVal → yE (m_yh l) c_pVal_q c_pVal → yL g c_node_q c_got_q c_handle_q c_pTarget_q c_pPlace_q c_act_q c_mode_q c_bVar_q c_pType_q c_v0_q c_v1_q c_v2_q c_last_q c_bVal_q c_pVal_q l
  | [], _, _, _, _, _, _, _, _, _, _, _, _, _, _, _, _, _, _ => trivial
  | f :: r, w, W, Y, e1, e2, e3, e4, e5, e6, e7, e8, e9, e10, e11, e12, e13, e14, e15 => by
    have hm := m_yh_p (f := f) (r := r)
    have hle : m_yh r ≤ m_yh (f :: r) := by omega
    refine ⟨?_, yL_keep W.2 Y.2 (yE_le e1 hle) (yE_le e2 hle) (yE_le e3 hle) (yE_le e4 hle) (yE_le e5 hle) (yE_le e6 hle) (yE_le e7 hle) (yE_le e8 hle) (yE_le e9 hle) (yE_le e10 hle) (yE_le e11 hle) (yE_le e12 hle) (yE_le e13 hle) (yE_le e14 hle) (yE_le e15 hle)⟩
    have Y1 := Y.1
    unfold yF at Y1 ⊢
    by_cases p7 : fr_ph f = 7
    · rw [if_pos p7] at Y1 hm ⊢
      obtain ⟨q0, r0, e0, p0, s0⟩ := W.1.2.2.2.2.2.1 p7
      have hq := m_yh_p (f := q0) (r := r0)
      have hp : 1 ≤ m_yh r := by
        rw [e0, hq, if_neg (w_48 p0).1]
        split <;> omega
      rw [e8 _ (by omega), e14 _ (by omega), e3 _ (by omega)]
      exact Y1
    · rw [if_neg p7] at Y1 hm ⊢
      by_cases p4 : fr_ph f = 4
      · rw [if_pos p4] at Y1 hm ⊢
        unfold yS at Y1 ⊢
        rw [e1 _ (by omega), e7 _ (by omega), e8 _ (by omega), e1 _ (by omega), e10 _ (by omega), e11 _ (by omega), e12 _ (by omega), e7 _ (by omega), e2 _ (by omega)]
        exact Y1
      · rw [if_neg p4] at Y1 hm ⊢
        by_cases p8 : fr_ph f = 8
        · rw [if_pos p8] at Y1 ⊢
          unfold yS at Y1 ⊢
          rw [e1 _ (by omega), e10 _ (by omega), e11 _ (by omega), e12 _ (by omega), e7 _ (by omega), e2 _ (by omega)]
          exact Y1
        · rw [if_neg p8] at Y1 ⊢
          obtain ⟨⟨nd, ev, ph, rm⟩, ⟨gt, x0, x1, x2⟩, ⟨la, bv, bx, ty⟩, dt, sc, sr, tg, pl⟩ := f
          unfold yA at Y1 ⊢
          rw [e1 _ (by omega), e6 _ (by omega), e2 _ (by omega), e7 _ (by omega), e8 _ (by omega), e14 _ (by omega), e10 _ (by omega), e11 _ (by omega), e12 _ (by omega), e13 _ (by omega), e15 _ (by omega), e4 _ (by omega), e9 _ (by omega), e5 _ (by omega)]
          exact Y1
/-- where a variable's binding is kept -/
def y_bi (v : Nat) : List Fr → Option Nat
  | [] => none
  | f :: r => if fr_bv f = v then some (if fr_ph f = 7 then m_yh r - 1 else m_yh r) else y_bi v r
def y_ox : Option Nat → Int32
  | none => -1
  | some k => nI k
theorem y_bvn {b v : Nat} (hv : 8 ≤ v) (hb : b < 12) (hv2 : v < 12) : y_bv b = nI v ↔ b = v := by
  unfold y_bv
  by_cases e : b = 0
  · rw [if_pos e]
    constructor
    · intro z
      have : (0 : Int32) ≤ -1 := by rw [z]; exact nI_pos' (by omega)
      exact absurd this (by decide)
    · intro z; omega
  · rw [if_neg e]
    exact nI_eq (by omega) (by omega)
theorem y_m1n {v : Nat} (hv2 : v < 12) : ¬ (-1 : Int32) = nI v := by
  intro z
  have : (0 : Int32) ≤ -1 := by rw [z]; exact nI_pos' (by omega)
  exact absurd this (by decide)
theorem y_bl {h_depth h_fuel h_count h_open h_types h_sp h_ret h_xTarget h_xVal h_xType h_xPlace h_have h_exiting h_running h_outcome h_value h_error h_datum h_place h_beats h_printed : Int32} {c_sort c_op c_na c_nb c_up c_val c_size c_params c_parent c_global c_cells c_locals c_has c_node c_got c_handle c_pTarget c_pPlace c_act c_mode c_bVar c_pType c_v0 c_v1 c_v2 c_last c_bVal c_pVal c_out : Nat → Int32} {Q : Int32 → Prop} (v : Nat) (hv : 8 ≤ v) (hv2 : v < 12) : ∀ (L : Nat) (l : List Fr) (w : Nat), l.length ≤ L → w_l g V Z pa w l → (∀ q r', l = q :: r' → fr_ph q ≠ 4 ∧ fr_ph q ≠ 8) → yL g c_node c_got c_handle c_pTarget c_pPlace c_act c_mode c_bVar c_pType c_v0 c_v1 c_v2 c_last c_bVal c_pVal l → m_yh l ≤ 520 → ∀ n, m_yh l < n → Q (y_ox (y_bi v l)) → wY_binding_7 Q (nI v) h_depth h_fuel h_count h_open h_types h_sp h_ret h_xTarget h_xVal h_xType h_xPlace h_have h_exiting h_running h_outcome h_value h_error h_datum h_place h_beats h_printed c_sort c_op c_na c_nb c_up c_val c_size c_params c_parent c_global c_cells c_locals c_has c_node c_got c_handle c_pTarget c_pPlace c_act c_mode c_bVar c_pType c_v0 c_v1 c_v2 c_last c_bVal c_pVal c_out n (nI (m_yh l) - 1)
  | _, _, _, _, _, _, _, _, 0, hn, _ => by omega
  | _, [], _, _, _, _, _, _, n + 1, hn, h => by
    rw [wY_binding_7]
    exact br_t (by decide) h
  | 0, f :: r, _, hL, _, _, _, _, n + 1, hn, h => absurd hL (by simp)
  | L + 1, f :: r, w, hL, W, hq, Y, h5, n + 1, hn, h => by
    have hL : r.length + 1 ≤ L + 1 := hL
    have hm := m_yh_p (f := f) (r := r)
    have hbv : fr_bv f < 12 := by
      rcases w_bdv W.1.2.2.2.1 with z | z <;> omega
    have Y1 := Y.1
    unfold yF at Y1
    have hb : y_bi v (f :: r) = if fr_bv f = v then some (if fr_ph f = 7 then m_yh r - 1 else m_yh r) else y_bi v r := rfl
    rw [hb] at h
    by_cases p7 : fr_ph f = 7
    · rw [if_pos p7] at Y1 hm
      rw [if_pos p7] at h
      obtain ⟨q0, r0, e0, p0, s0⟩ := W.1.2.2.2.2.2.1 p7
      subst e0
      obtain ⟨g7, g6, g1, g3⟩ := w_48 p0
      have hq0 := m_yh_p (f := q0) (r := r0)
      rw [if_neg g7] at hq0
      have hp : 1 ≤ m_yh (q0 :: r0) := by
        rw [hq0]
        split <;> omega
      rw [hm, Nat.add_zero]
      rw [hm, Nat.add_zero] at h5 hn
      obtain ⟨k, hk⟩ : ∃ k, m_yh (q0 :: r0) = k + 1 := ⟨m_yh (q0 :: r0) - 1, by omega⟩
      rw [hk, Nat.add_sub_cancel] at Y1 h
      rw [hk] at h5 hn hq0 ⊢
      have b0 : fr_bv q0 = 0 := w_bd48 W.2.1.2.2.2.1 p0
      have hb2 : y_bi v (q0 :: r0) = y_bi v r0 := if_neg (by omega)
      rw [nI_pred, wY_binding_7]
      refine br_f (nI_pos (by omega)) ?_
      refine ⟨vp_in_nI (by omega) (by decide), ?_⟩
      rw [nI_clamp (by omega), Y1.1]
      refine fb_if (y_bvn hv hbv hv2) (fun z => ?_) (fun z => ?_)
      · rw [if_pos z] at h
        exact h
      · rw [if_neg z, hb2] at h
        refine nm_r (fo_m1 k) ?_
        have hnx := W.2.1.2.2.2.2.2.2.1 g7
        by_cases p4 : fr_ph q0 = 4
        · rw [if_pos p4] at hq0
          have e : k = m_yh r0 + 1 := by omega
          subst e
          have Y2 := Y.2.1
          unfold yF at Y2
          rw [if_neg g7, if_pos p4] at Y2
          obtain ⟨m, rfl⟩ : ∃ m, n = m + 1 := ⟨n - 1, by omega⟩
          rw [nI_pred, wY_binding_7]
          refine br_f (nI_pos (by omega)) ?_
          refine ⟨vp_in_nI (by omega) (by decide), ?_⟩
          rw [nI_clamp (by omega), Y2.2.2.1]
          refine br_f (y_m1n hv2) (nm_r (fo_m1 _) ?_)
          exact y_bl v hv hv2 L r0 1 (by have : (q0 :: r0).length = r0.length + 1 := rfl; omega) W.2.2 hnx Y.2.2 (by omega) m (by omega) h
        · rw [if_neg p4] at hq0
          have e : k = m_yh r0 := by omega
          subst e
          exact y_bl v hv hv2 L r0 1 (by have : (q0 :: r0).length = r0.length + 1 := rfl; omega) W.2.2 hnx Y.2.2 (by omega) n (by omega) h
    · obtain ⟨h4, h8⟩ := hq f r rfl
      rw [if_neg p7, if_neg h4, if_neg h8] at Y1
      rw [if_neg p7] at h
      rw [if_neg p7, if_neg h4] at hm
      rw [hm] at h5 hn ⊢
      have Yb : c_bVar (m_yh r) = y_bv (fr_bv f) := by
        obtain ⟨⟨nd, ev, ph, rm⟩, ⟨gt, x0, x1, x2⟩, ⟨la, bv, bx, ty⟩, dt, sc, sr, tg, pl⟩ := f
        exact (Y1.2.2.2.2.1 trivial).1
      rw [nI_pred, wY_binding_7]
      refine br_f (nI_pos (by omega)) ?_
      refine ⟨vp_in_nI (by omega) (by decide), ?_⟩
      rw [nI_clamp (by omega), Yb]
      refine fb_if (y_bvn hv hbv hv2) (fun z => ?_) (fun z => ?_)
      · rw [if_pos z] at h
        exact h
      · rw [if_neg z] at h
        refine nm_r (fo_m1 _) ?_
        exact y_bl v hv hv2 L r 1 (by omega) W.2 (W.1.2.2.2.2.2.2.1 p7) Y.2 (by omega) n (by omega) h
theorem y_bif {gl : Nat → Option Int32} (v : Nat) (hv : 8 ≤ v) : ∀ {l : List Fr} {w : Nat}, w_l g V Z pa w l → (∀ q r', l = q :: r' → fr_ph q ≠ 4 ∧ fr_ph q ≠ 8) → yL g c_node c_got c_handle c_pTarget c_pPlace c_act c_mode c_bVar c_pType c_v0 c_v1 c_v2 c_last c_bVal c_pVal l → (∀ k, y_bi v l = some k → k < m_yh l ∧ m_cur gl v l = some (c_bVal k)) ∧ (y_bi v l = none → m_cur gl v l = gl v)
  | [], _, _, _, _ => ⟨fun k z => (by cases z), fun _ => rfl⟩
  | f :: r, w, W, hq, Y => by
    obtain ⟨h4, h8⟩ := hq f r rfl
    have hm := m_yh_p (f := f) (r := r)
    have hb : y_bi v (f :: r) = if fr_bv f = v then some (if fr_ph f = 7 then m_yh r - 1 else m_yh r) else y_bi v r := rfl
    have hc : m_cur gl v (f :: r) = if fr_bv f = v then some (fr_bx f) else m_cur gl v r := rfl
    have Y1 := Y.1
    unfold yF at Y1
    rw [hb, hc]
    by_cases e : fr_bv f = v
    · rw [if_pos e, if_pos e]
      refine ⟨fun k z => ?_, fun z => (by cases z)⟩
      injection z with z
      by_cases p7 : fr_ph f = 7
      · rw [if_pos p7] at Y1 hm z
        obtain ⟨q0, r0, e0, p0, s0⟩ := W.1.2.2.2.2.2.1 p7
        have hq0 := m_yh_p (f := q0) (r := r0)
        rw [if_neg (w_48 p0).1] at hq0
        have hp : 1 ≤ m_yh r := by
          rw [e0, hq0]
          split <;> omega
        refine ⟨by omega, ?_⟩
        rw [← z, Y1.2.1 (by omega)]
      · rw [if_neg p7] at Y1 hm z
        rw [if_neg h4, if_neg h8] at Y1
        rw [if_neg h4] at hm
        refine ⟨by omega, ?_⟩
        obtain ⟨⟨nd, ev, ph, rm⟩, ⟨gt, x0, x1, x2⟩, ⟨la, bv, bx, ty⟩, dt, sc, sr, tg, pl⟩ := f
        rw [← z, (Y1.2.2.2.2.1 trivial).2 (by
          have e : bv = v := e
          omega)]
        rfl
    · rw [if_neg e, if_neg e]
      by_cases p7 : fr_ph f = 7
      · obtain ⟨q0, r0, e0, p0, s0⟩ := W.1.2.2.2.2.2.1 p7
        subst e0
        have b0 : fr_bv q0 = 0 := w_bd48 W.2.1.2.2.2.1 p0
        have hb2 : y_bi v (q0 :: r0) = y_bi v r0 := if_neg (by omega)
        have hc2 : m_cur gl v (q0 :: r0) = m_cur gl v r0 := if_neg (by omega)
        have hq0 := m_yh_p (f := q0) (r := r0)
        obtain ⟨i1, i2⟩ := y_bif (gl := gl) v hv W.2.2 (W.2.1.2.2.2.2.2.2.1 (w_48 p0).1) Y.2.2
        rw [hb2, hc2]
        exact ⟨fun k z => ⟨by have := (i1 k z).1; omega, (i1 k z).2⟩, i2⟩
      · obtain ⟨i1, i2⟩ := y_bif (gl := gl) v hv W.2 (W.1.2.2.2.2.2.2.1 p7) Y.2
        exact ⟨fun k z => ⟨by have := (i1 k z).1; omega, (i1 k z).2⟩, i2⟩
theorem y_bind {h_depth h_fuel h_count h_open h_types h_ret h_xTarget h_xVal h_xType h_xPlace h_have h_exiting h_running h_outcome h_value h_error h_datum h_place h_beats h_printed : Int32} {c_sort c_op c_na c_nb c_up c_val c_size c_params c_parent c_global c_cells c_locals c_has c_node c_got c_handle c_pTarget c_pPlace c_act c_mode c_bVar c_pType c_v0 c_v1 c_v2 c_last c_bVal c_pVal c_out : Nat → Int32} {Q : Int32 → Prop} {w : Nat} (v : Nat) (hv : 8 ≤ v) (hv2 : v < 12) (W : w_l g V Z pa w l) (ht : ∀ q r', l = q :: r' → fr_ph q ≠ 4 ∧ fr_ph q ≠ 8) (Y : yL g c_node c_got c_handle c_pTarget c_pPlace c_act c_mode c_bVar c_pType c_v0 c_v1 c_v2 c_last c_bVal c_pVal l) (h5 : m_yh l ≤ 520) (h : Q (y_ox (y_bi v l))) : wpY_binding Q (h_depth, h_fuel, h_count, h_open, h_types, nI (m_yh l), h_ret, h_xTarget, h_xVal, h_xType, h_xPlace, h_have, h_exiting, h_running, h_outcome, h_value, h_error, h_datum, h_place, h_beats, h_printed, c_sort, c_op, c_na, c_nb, c_up, c_val, c_size, c_params, c_parent, c_global, c_cells, c_locals, c_has, c_node, c_got, c_handle, c_pTarget, c_pPlace, c_act, c_mode, c_bVar, c_pType, c_v0, c_v1, c_v2, c_last, c_bVal, c_pVal, c_out) (nI v) := nm_e ⟨m_yh l + 1, y_bl v hv hv2 l.length l w (Nat.le_refl _) W ht Y h5 (m_yh l + 1) (Nat.lt_succ_self _) h⟩
theorem y_bound {h_depth h_fuel h_count h_open h_types h_ret h_xTarget h_xVal h_xType h_xPlace h_have h_exiting h_running h_outcome h_value h_error h_datum h_place h_beats h_printed : Int32} {c_sort c_op c_na c_nb c_up c_val c_size c_params c_parent c_global c_cells c_locals c_has c_node c_got c_handle c_pTarget c_pPlace c_act c_mode c_bVar c_pType c_v0 c_v1 c_v2 c_last c_bVal c_pVal c_out : Nat → Int32} {Q : Int32 → Prop} {gl : Nat → Option Int32} {w : Nat} (v : Nat) (hv : 8 ≤ v) (hv2 : v < 12) (W : w_l g V Z pa w l) (ht : ∀ q r', l = q :: r' → fr_ph q ≠ 4 ∧ fr_ph q ≠ 8) (Y : yL g c_node c_got c_handle c_pTarget c_pPlace c_act c_mode c_bVar c_pType c_v0 c_v1 c_v2 c_last c_bVal c_pVal l) (h5 : m_yh l ≤ 520) (hg : yGl c_global c_has gl) (h : Q (match m_cur gl v l with | some _ => 1 | none => 0)) : wpY_bound Q (h_depth, h_fuel, h_count, h_open, h_types, nI (m_yh l), h_ret, h_xTarget, h_xVal, h_xType, h_xPlace, h_have, h_exiting, h_running, h_outcome, h_value, h_error, h_datum, h_place, h_beats, h_printed, c_sort, c_op, c_na, c_nb, c_up, c_val, c_size, c_params, c_parent, c_global, c_cells, c_locals, c_has, c_node, c_got, c_handle, c_pTarget, c_pPlace, c_act, c_mode, c_bVar, c_pType, c_v0, c_v1, c_v2, c_last, c_bVal, c_pVal, c_out) (nI v) := by
  obtain ⟨i1, i2⟩ := y_bif (gl := gl) v hv W ht Y
  unfold wpY_bound
  dsimp only
  refine y_bind v hv hv2 W ht Y h5 ?_
  cases hb : y_bi v l with
  | some k =>
    obtain ⟨k1, k2⟩ := i1 k hb
    rw [k2] at h
    exact br_t (nI_pos' (by omega)) h
  | none =>
    have k2 := i2 hb
    rw [k2] at h
    have := hg (v - 8) (by omega)
    rw [show 8 + (v - 8) = v from by omega] at this
    refine br_f (by decide) ⟨vp_in_nI hv2 (by decide), ?_⟩
    rw [nI_clamp (by omega)]
    cases hgl : gl v with
    | none =>
      rw [hgl] at this h
      exact br_t this h
    | some x =>
      rw [hgl] at this h
      exact br_f (by rw [this.1]; decide) h
theorem y_curr {h_depth h_fuel h_count h_open h_types h_ret h_xTarget h_xVal h_xType h_xPlace h_have h_exiting h_running h_outcome h_value h_error h_datum h_place h_beats h_printed : Int32} {c_sort c_op c_na c_nb c_up c_val c_size c_params c_parent c_global c_cells c_locals c_has c_node c_got c_handle c_pTarget c_pPlace c_act c_mode c_bVar c_pType c_v0 c_v1 c_v2 c_last c_bVal c_pVal c_out : Nat → Int32} {Q : Int32 → Prop} {gl : Nat → Option Int32} {w : Nat} {x : Int32} (v : Nat) (hv : 8 ≤ v) (hv2 : v < 12) (W : w_l g V Z pa w l) (ht : ∀ q r', l = q :: r' → fr_ph q ≠ 4 ∧ fr_ph q ≠ 8) (Y : yL g c_node c_got c_handle c_pTarget c_pPlace c_act c_mode c_bVar c_pType c_v0 c_v1 c_v2 c_last c_bVal c_pVal l) (h5 : m_yh l ≤ 520) (hg : yGl c_global c_has gl) (hx : m_cur gl v l = some x) (h : Q x) : wpY_current Q (h_depth, h_fuel, h_count, h_open, h_types, nI (m_yh l), h_ret, h_xTarget, h_xVal, h_xType, h_xPlace, h_have, h_exiting, h_running, h_outcome, h_value, h_error, h_datum, h_place, h_beats, h_printed, c_sort, c_op, c_na, c_nb, c_up, c_val, c_size, c_params, c_parent, c_global, c_cells, c_locals, c_has, c_node, c_got, c_handle, c_pTarget, c_pPlace, c_act, c_mode, c_bVar, c_pType, c_v0, c_v1, c_v2, c_last, c_bVal, c_pVal, c_out) (nI v) := by
  obtain ⟨i1, i2⟩ := y_bif (gl := gl) v hv W ht Y
  unfold wpY_current
  dsimp only
  refine y_bind v hv hv2 W ht Y h5 ?_
  cases hb : y_bi v l with
  | some k =>
    obtain ⟨k1, k2⟩ := i1 k hb
    rw [hx] at k2
    injection k2 with k2
    refine br_f (nI_pos (by omega)) ⟨vp_in_nI (by omega) (by decide), ?_⟩
    rw [show (y_ox (some k)).toNatClampNeg = k from nI_clamp (by omega), ← k2]
    exact h
  | none =>
    have k2 := i2 hb
    rw [hx] at k2
    have := hg (v - 8) (by omega)
    rw [show 8 + (v - 8) = v from by omega, ← k2] at this
    refine br_t (by decide) ⟨vp_in_nI hv2 (by decide), ?_⟩
    rw [nI_clamp (by omega), this.2]
    exact h
end
