/-! parts counted, room, adding a node: both sides' walks and the tables' step -/
theorem fo_27 {o : Nat} {Q : Nat → Prop} (ho : o ≤ 26) (h0 : Q 0) (h1 : Q 1) (h2 : Q 2) (h3 : Q 3) (h4 : Q 4) (h5 : Q 5) (h6 : Q 6) (h7 : Q 7) (h8 : Q 8) (h9 : Q 9) (h10 : Q 10) (h11 : Q 11) (h12 : Q 12) (h13 : Q 13) (h14 : Q 14) (h15 : Q 15) (h16 : Q 16) (h17 : Q 17) (h18 : Q 18) (h19 : Q 19) (h20 : Q 20) (h21 : Q 21) (h22 : Q 22) (h23 : Q 23) (h24 : Q 24) (h25 : Q 25) (h26 : Q 26) : Q o := by
  have h : o = 0 ∨ o = 1 ∨ o = 2 ∨ o = 3 ∨ o = 4 ∨ o = 5 ∨ o = 6 ∨ o = 7 ∨ o = 8 ∨ o = 9 ∨ o = 10 ∨ o = 11 ∨ o = 12 ∨ o = 13 ∨ o = 14 ∨ o = 15 ∨ o = 16 ∨ o = 17 ∨ o = 18 ∨ o = 19 ∨ o = 20 ∨ o = 21 ∨ o = 22 ∨ o = 23 ∨ o = 24 ∨ o = 25 ∨ o = 26 := by omega
  rcases h with rfl | rfl | rfl | rfl | rfl | rfl | rfl | rfl | rfl | rfl | rfl | rfl | rfl | rfl | rfl | rfl | rfl | rfl | rfl | rfl | rfl | rfl | rfl | rfl | rfl | rfl | rfl <;> assumption
theorem xl_least {post : Int32 → Prop} {o : Nat} (ho : o ≤ 26) : post (nI (fo_least o)) → wpX_leastParts post (nI o) := by
  refine fo_27 (Q := fun o => post (nI (fo_least o)) → wpX_leastParts post (nI o)) ho ?_ ?_ ?_ ?_ ?_ ?_ ?_ ?_ ?_ ?_ ?_ ?_ ?_ ?_ ?_ ?_ ?_ ?_ ?_ ?_ ?_ ?_ ?_ ?_ ?_ ?_ ?_
  all_goals
    intro hp
    unfold wpX_leastParts
    repeat' first | exact hp | refine br_t (by decide) ?_ | refine br_f (by decide) ?_
theorem xl_most {post : Int32 → Prop} {o : Nat} (ho : o ≤ 26) : post (nI (fo_most o)) → wpX_mostParts post (nI o) := by
  refine fo_27 (Q := fun o => post (nI (fo_most o)) → wpX_mostParts post (nI o)) ho ?_ ?_ ?_ ?_ ?_ ?_ ?_ ?_ ?_ ?_ ?_ ?_ ?_ ?_ ?_ ?_ ?_ ?_ ?_ ?_ ?_ ?_ ?_ ?_ ?_ ?_ ?_
  all_goals
    intro hp
    unfold wpX_mostParts wX_mostParts_89 wpX_leastParts
    repeat' first | exact hp | refine br_t (by decide) ?_ | refine br_f (by decide) ?_
section
variable {f_openCount f_typeCount f_printedCount f_depthLimit f_fuelLimit f_lastStatus f_lastValue f_lastError f_lastDatum f_lastPlace f_beatsUsed f_frameCount f_mode f_currentNode f_currentEnv f_result f_calls f_inForce f_exitTarget f_exitValue f_exitType f_exitPlace : Int32} {a_nodeOp a_nodeA a_nodeB a_nodeParts a_nodeSize a_slotSize a_slotParams a_openLists a_typeParent a_elements a_locals a_specialValue a_specialHas a_printed a_frames : Nat → Int32} {h_depth h_fuel h_count h_open h_types h_sp h_ret h_xTarget h_xVal h_xType h_xPlace h_have h_exiting h_running h_outcome h_value h_error h_datum h_place h_beats h_printed : Int32} {c_sort c_op c_na c_nb c_up c_val c_size c_params c_parent c_global c_cells c_locals c_has c_node c_got c_handle c_pTarget c_pPlace c_act c_mode c_bVar c_pType c_v0 c_v1 c_v2 c_last c_bVal c_pVal c_out : Nat → Int32}
theorem yl_least {post : Int32 → Prop} {o : Nat} (ho : o ≤ 26) : post (nI (fo_least o)) → wpY_least post (h_depth, h_fuel, h_count, h_open, h_types, h_sp, h_ret, h_xTarget, h_xVal, h_xType, h_xPlace, h_have, h_exiting, h_running, h_outcome, h_value, h_error, h_datum, h_place, h_beats, h_printed, c_sort, c_op, c_na, c_nb, c_up, c_val, c_size, c_params, c_parent, c_global, c_cells, c_locals, c_has, c_node, c_got, c_handle, c_pTarget, c_pPlace, c_act, c_mode, c_bVar, c_pType, c_v0, c_v1, c_v2, c_last, c_bVal, c_pVal, c_out) (nI o) := by
  refine fo_27 (Q := fun o => post (nI (fo_least o)) → wpY_least post (h_depth, h_fuel, h_count, h_open, h_types, h_sp, h_ret, h_xTarget, h_xVal, h_xType, h_xPlace, h_have, h_exiting, h_running, h_outcome, h_value, h_error, h_datum, h_place, h_beats, h_printed, c_sort, c_op, c_na, c_nb, c_up, c_val, c_size, c_params, c_parent, c_global, c_cells, c_locals, c_has, c_node, c_got, c_handle, c_pTarget, c_pPlace, c_act, c_mode, c_bVar, c_pType, c_v0, c_v1, c_v2, c_last, c_bVal, c_pVal, c_out) (nI o)) ho ?_ ?_ ?_ ?_ ?_ ?_ ?_ ?_ ?_ ?_ ?_ ?_ ?_ ?_ ?_ ?_ ?_ ?_ ?_ ?_ ?_ ?_ ?_ ?_ ?_ ?_ ?_
  all_goals
    intro hp
    unfold wpY_least
    dsimp only
    repeat' first | exact hp | refine br_t (by decide) ?_ | refine br_f (by decide) ?_
theorem yl_most {post : Int32 → Prop} {o : Nat} (ho : o ≤ 26) : post (nI (fo_most o)) → wpY_most post (h_depth, h_fuel, h_count, h_open, h_types, h_sp, h_ret, h_xTarget, h_xVal, h_xType, h_xPlace, h_have, h_exiting, h_running, h_outcome, h_value, h_error, h_datum, h_place, h_beats, h_printed, c_sort, c_op, c_na, c_nb, c_up, c_val, c_size, c_params, c_parent, c_global, c_cells, c_locals, c_has, c_node, c_got, c_handle, c_pTarget, c_pPlace, c_act, c_mode, c_bVar, c_pType, c_v0, c_v1, c_v2, c_last, c_bVal, c_pVal, c_out) (nI o) := by
  refine fo_27 (Q := fun o => post (nI (fo_most o)) → wpY_most post (h_depth, h_fuel, h_count, h_open, h_types, h_sp, h_ret, h_xTarget, h_xVal, h_xType, h_xPlace, h_have, h_exiting, h_running, h_outcome, h_value, h_error, h_datum, h_place, h_beats, h_printed, c_sort, c_op, c_na, c_nb, c_up, c_val, c_size, c_params, c_parent, c_global, c_cells, c_locals, c_has, c_node, c_got, c_handle, c_pTarget, c_pPlace, c_act, c_mode, c_bVar, c_pType, c_v0, c_v1, c_v2, c_last, c_bVal, c_pVal, c_out) (nI o)) ho ?_ ?_ ?_ ?_ ?_ ?_ ?_ ?_ ?_ ?_ ?_ ?_ ?_ ?_ ?_ ?_ ?_ ?_ ?_ ?_ ?_ ?_ ?_ ?_ ?_ ?_ ?_
  all_goals
    intro hp
    unfold wpY_most wY_most_45 wpY_least
    dsimp only
    repeat' first | exact hp | refine br_t (by decide) ?_ | refine br_f (by decide) ?_
theorem fb_upe {p i : Nat} (hp : p < 1000) (hi : i < 1000) : nI p - 1 = nI i ↔ p = i + 1 := by
  constructor
  · intro h
    have h2 : nI p = nI (i + 1) := by rw [← nI_1, ← h, Int32.sub_add_cancel]
    exact (nI_eq (by omega) (by omega)).mp h2
  · intro h
    rw [h]; exact nI_pred i
theorem fb_sb (b i : Nat) : nI (b + i) - nI b = nI i := by
  have := pk_sub (a := b + i) (b := b) (by omega)
  rw [Nat.add_sub_cancel_left] at this
  exact this
theorem yl_parts13 {post : Int32 → Prop} {P : Nat → Nat} {b i cnt : Nat} (hb : b + 56 ≤ 392) (hc : cnt ≤ 56) (hi : i < 56) (hu : ∀ j, j < cnt → c_up (b + j) = nI (P (b + j)) - 1 ∧ P (b + j) ≤ j) (hL : ∀ q : Int32 → Prop, q (nI cnt) → wpY_length q (h_depth, h_fuel, h_count, h_open, h_types, h_sp, h_ret, h_xTarget, h_xVal, h_xType, h_xPlace, h_have, h_exiting, h_running, h_outcome, h_value, h_error, h_datum, h_place, h_beats, h_printed, c_sort, c_op, c_na, c_nb, c_up, c_val, c_size, c_params, c_parent, c_global, c_cells, c_locals, c_has, c_node, c_got, c_handle, c_pTarget, c_pPlace, c_act, c_mode, c_bVar, c_pType, c_v0, c_v1, c_v2, c_last, c_bVal, c_pVal, c_out) (nI (b + i))) : ∀ (d t k n : Nat), t + d = cnt → d < n → post (nI (k + (fo_kf P b i d t).length)) → wY_parts_13 post (nI (b + i)) (nI b) h_depth h_fuel h_count h_open h_types h_sp h_ret h_xTarget h_xVal h_xType h_xPlace h_have h_exiting h_running h_outcome h_value h_error h_datum h_place h_beats h_printed c_sort c_op c_na c_nb c_up c_val c_size c_params c_parent c_global c_cells c_locals c_has c_node c_got c_handle c_pTarget c_pPlace c_act c_mode c_bVar c_pType c_v0 c_v1 c_v2 c_last c_bVal c_pVal c_out n (nI k) (nI t)
  | _, _, _, 0, _, h, _ => by omega
  | 0, t, k, n + 1, ht, _, hp => by
    rw [wY_parts_13]
    refine hL _ ?_
    exact br_t (nI_le (by omega) (by omega)) hp
  | d + 1, t, k, n + 1, ht, hn, hp => by
    obtain ⟨u1, u2⟩ := hu t (by omega)
    rw [wY_parts_13]
    refine hL _ ?_
    refine br_f (nI_ge (by omega) (by omega)) ?_
    rw [nI_add]
    refine ⟨vp_in_nI (by omega) (by decide), ?_⟩
    rw [nI_clamp (by omega), u1, fb_sb]
    refine fb_if (fb_upe (by omega) (by omega)) (fun e => ?_) (fun e => ?_)
    · refine nm_r (nI_1 k) (nm_r (nI_1 t) (yl_parts13 hb hc hi hu hL d (t + 1) (k + 1) n (by omega) (by omega) ?_))
      have hp : post (nI (k + (if P (b + t) = i + 1 then (b + t) :: fo_kf P b i d (t + 1) else fo_kf P b i d (t + 1)).length)) := hp
      rw [if_pos e, List.length_cons] at hp
      have e2 : k + 1 + (fo_kf P b i d (t + 1)).length = k + ((fo_kf P b i d (t + 1)).length + 1) := by omega
      rw [e2]; exact hp
    · refine nm_r (nI_1 t) (yl_parts13 hb hc hi hu hL d (t + 1) k n (by omega) (by omega) ?_)
      have hp : post (nI (k + (if P (b + t) = i + 1 then (b + t) :: fo_kf P b i d (t + 1) else fo_kf P b i d (t + 1)).length)) := hp
      rw [if_neg e] at hp
      exact hp
def fo_nx (l : List Nat) (j : Nat) : Int32 := match l[j]? with
  | some c => nI c
  | none => -1
theorem yl_part14 {post : Int32 → Prop} {P : Nat → Nat} {b i cnt j : Nat} (hb : b + 56 ≤ 392) (hc : cnt ≤ 56) (hi : i < 56) (hj : j < 1000) (hu : ∀ j, j < cnt → c_up (b + j) = nI (P (b + j)) - 1 ∧ P (b + j) ≤ j) (hL : ∀ q : Int32 → Prop, q (nI cnt) → wpY_length q (h_depth, h_fuel, h_count, h_open, h_types, h_sp, h_ret, h_xTarget, h_xVal, h_xType, h_xPlace, h_have, h_exiting, h_running, h_outcome, h_value, h_error, h_datum, h_place, h_beats, h_printed, c_sort, c_op, c_na, c_nb, c_up, c_val, c_size, c_params, c_parent, c_global, c_cells, c_locals, c_has, c_node, c_got, c_handle, c_pTarget, c_pPlace, c_act, c_mode, c_bVar, c_pType, c_v0, c_v1, c_v2, c_last, c_bVal, c_pVal, c_out) (nI (b + i))) : ∀ (d t k n : Nat), t + d = cnt → d < n → k ≤ j → post (fo_nx (fo_kf P b i d t) (j - k)) → wY_part_14 post (nI (b + i)) (nI j) (nI b) h_depth h_fuel h_count h_open h_types h_sp h_ret h_xTarget h_xVal h_xType h_xPlace h_have h_exiting h_running h_outcome h_value h_error h_datum h_place h_beats h_printed c_sort c_op c_na c_nb c_up c_val c_size c_params c_parent c_global c_cells c_locals c_has c_node c_got c_handle c_pTarget c_pPlace c_act c_mode c_bVar c_pType c_v0 c_v1 c_v2 c_last c_bVal c_pVal c_out n (nI k) (nI t)
  | _, _, _, 0, _, h, _, _ => by omega
  | 0, t, k, n + 1, ht, _, hk, hp => by
    rw [wY_part_14]
    refine hL _ ?_
    exact br_t (nI_le (by omega) (by omega)) hp
  | d + 1, t, k, n + 1, ht, hn, hk, hp => by
    obtain ⟨u1, u2⟩ := hu t (by omega)
    have hp : post (fo_nx (if P (b + t) = i + 1 then (b + t) :: fo_kf P b i d (t + 1) else fo_kf P b i d (t + 1)) (j - k)) := hp
    rw [wY_part_14]
    refine hL _ ?_
    refine br_f (nI_ge (by omega) (by omega)) ?_
    rw [nI_add]
    refine ⟨vp_in_nI (by omega) (by decide), ?_⟩
    rw [nI_clamp (by omega), u1, fb_sb]
    refine fb_if (fb_upe (by omega) (by omega)) (fun e => ?_) (fun e => ?_)
    · rw [if_pos e] at hp
      refine fb_if (nI_eq (by omega) (by omega)) (fun g => ?_) (fun g => ?_)
      · subst g
        rw [Nat.sub_self] at hp
        exact hp
      · refine nm_r (nI_1 k) (nm_r (nI_1 t) (yl_part14 hb hc hi hj hu hL d (t + 1) (k + 1) n (by omega) (by omega) (by omega) ?_))
        have e2 : j - k = (j - (k + 1)) + 1 := by omega
        rw [e2] at hp
        exact hp
    · rw [if_neg e] at hp
      exact nm_r (nI_1 t) (yl_part14 hb hc hi hj hu hL d (t + 1) k n (by omega) (by omega) (by omega) hp)
theorem fb_base {b i : Nat} (s : Nat) (hs : b = 56 * s) (hb : b + 56 ≤ 392) (hi : i < 56) : (nI (b + i) / 56) * 56 = nI b ∧ nI (b + i) / 56 = nI s := by
  have e : nI (b + i) / 56 = nI s := by
    have := pk_div (a := b + i) (d := 56) (by omega) (by decide) (by decide)
    rw [show (b + i) / 56 = s from by omega] at this
    exact this
  refine ⟨?_, e⟩
  rw [e, show (56 : Int32) = nI 56 from rfl, pk_mul, hs, Nat.mul_comm]
theorem yl_parts {post : Int32 → Prop} {P : Nat → Nat} {b i cnt : Nat} (s : Nat) (hs : b = 56 * s) (hb : b + 56 ≤ 392) (hc : cnt ≤ 56) (hi : i < 56) (hu : ∀ j, j < cnt → c_up (b + j) = nI (P (b + j)) - 1 ∧ P (b + j) ≤ j) (hL : ∀ q : Int32 → Prop, q (nI cnt) → wpY_length q (h_depth, h_fuel, h_count, h_open, h_types, h_sp, h_ret, h_xTarget, h_xVal, h_xType, h_xPlace, h_have, h_exiting, h_running, h_outcome, h_value, h_error, h_datum, h_place, h_beats, h_printed, c_sort, c_op, c_na, c_nb, c_up, c_val, c_size, c_params, c_parent, c_global, c_cells, c_locals, c_has, c_node, c_got, c_handle, c_pTarget, c_pPlace, c_act, c_mode, c_bVar, c_pType, c_v0, c_v1, c_v2, c_last, c_bVal, c_pVal, c_out) (nI (b + i))) (hp : post (nI (fo_kids P b cnt i).length)) : wpY_parts post (h_depth, h_fuel, h_count, h_open, h_types, h_sp, h_ret, h_xTarget, h_xVal, h_xType, h_xPlace, h_have, h_exiting, h_running, h_outcome, h_value, h_error, h_datum, h_place, h_beats, h_printed, c_sort, c_op, c_na, c_nb, c_up, c_val, c_size, c_params, c_parent, c_global, c_cells, c_locals, c_has, c_node, c_got, c_handle, c_pTarget, c_pPlace, c_act, c_mode, c_bVar, c_pType, c_v0, c_v1, c_v2, c_last, c_bVal, c_pVal, c_out) (nI (b + i)) := by
  refine ⟨by decide, nm_r (fb_base s hs hb hi).1 ⟨cnt + 1, ?_⟩⟩
  refine yl_parts13 hb hc hi hu hL cnt 0 0 (cnt + 1) (by omega) (by omega) ?_
  rw [Nat.zero_add]; exact hp
theorem yl_part {post : Int32 → Prop} {P : Nat → Nat} {b i cnt j : Nat} (s : Nat) (hs : b = 56 * s) (hb : b + 56 ≤ 392) (hc : cnt ≤ 56) (hi : i < 56) (hj : j < 1000) (hu : ∀ j, j < cnt → c_up (b + j) = nI (P (b + j)) - 1 ∧ P (b + j) ≤ j) (hL : ∀ q : Int32 → Prop, q (nI cnt) → wpY_length q (h_depth, h_fuel, h_count, h_open, h_types, h_sp, h_ret, h_xTarget, h_xVal, h_xType, h_xPlace, h_have, h_exiting, h_running, h_outcome, h_value, h_error, h_datum, h_place, h_beats, h_printed, c_sort, c_op, c_na, c_nb, c_up, c_val, c_size, c_params, c_parent, c_global, c_cells, c_locals, c_has, c_node, c_got, c_handle, c_pTarget, c_pPlace, c_act, c_mode, c_bVar, c_pType, c_v0, c_v1, c_v2, c_last, c_bVal, c_pVal, c_out) (nI (b + i))) (hp : post (fo_nx (fo_kids P b cnt i) j)) : wpY_part post (h_depth, h_fuel, h_count, h_open, h_types, h_sp, h_ret, h_xTarget, h_xVal, h_xType, h_xPlace, h_have, h_exiting, h_running, h_outcome, h_value, h_error, h_datum, h_place, h_beats, h_printed, c_sort, c_op, c_na, c_nb, c_up, c_val, c_size, c_params, c_parent, c_global, c_cells, c_locals, c_has, c_node, c_got, c_handle, c_pTarget, c_pPlace, c_act, c_mode, c_bVar, c_pType, c_v0, c_v1, c_v2, c_last, c_bVal, c_pVal, c_out) (nI (b + i)) (nI j) := by
  refine ⟨by decide, nm_r (fb_base s hs hb hi).1 ⟨cnt + 1, ?_⟩⟩
  exact yl_part14 hb hc hi hj hu hL cnt 0 0 (cnt + 1) (by omega) (by omega) (by omega) hp
theorem yl_lenF {q : Int32 → Prop} {i cnt : Nat} (hi : i < 56) (hc : h_count = nI cnt) (h : q (nI cnt)) : wpY_length q (h_depth, h_fuel, h_count, h_open, h_types, h_sp, h_ret, h_xTarget, h_xVal, h_xType, h_xPlace, h_have, h_exiting, h_running, h_outcome, h_value, h_error, h_datum, h_place, h_beats, h_printed, c_sort, c_op, c_na, c_nb, c_up, c_val, c_size, c_params, c_parent, c_global, c_cells, c_locals, c_has, c_node, c_got, c_handle, c_pTarget, c_pPlace, c_act, c_mode, c_bVar, c_pType, c_v0, c_v1, c_v2, c_last, c_bVal, c_pVal, c_out) (nI (336 + i)) := by
  subst hc
  exact br_f (nI_nlt (b := 336) (a := 336 + i) (by omega) (by omega)) h
theorem yl_lenS {q : Int32 → Prop} {s i cnt : Nat} (hs : s < 6) (hi : i < 56) (hc : c_size s = nI cnt) (h : q (nI cnt)) : wpY_length q (h_depth, h_fuel, h_count, h_open, h_types, h_sp, h_ret, h_xTarget, h_xVal, h_xType, h_xPlace, h_have, h_exiting, h_running, h_outcome, h_value, h_error, h_datum, h_place, h_beats, h_printed, c_sort, c_op, c_na, c_nb, c_up, c_val, c_size, c_params, c_parent, c_global, c_cells, c_locals, c_has, c_node, c_got, c_handle, c_pTarget, c_pPlace, c_act, c_mode, c_bVar, c_pType, c_v0, c_v1, c_v2, c_last, c_bVal, c_pVal, c_out) (nI (56 * s + i)) := by
  have e := (fb_base (b := 56 * s) (i := i) s rfl (by omega) hi).2
  refine br_t (nI_lt (b := 336) (by omega) (by decide)) ⟨by decide, ?_⟩
  rw [e]
  refine ⟨vp_in_nI hs (by decide), ?_⟩
  rw [nI_clamp (by omega), hc]
  exact h
end
