/-! open, continued -/
theorem fb_rgY (x : Int32) (lo hi : Nat) (h : lo ≤ hi + 1) (hh : hi + 1 < 2 ^ 31) {A B : Prop} (f : fo_RG lo (hi + 1) x → A) (g : ¬ fo_RG lo (hi + 1) x → B) : (x < nI lo → B) ∧ (¬ x < nI lo → ((x ≤ nI hi → A) ∧ (¬ x ≤ nI hi → B))) := by
  obtain ⟨k1, k2⟩ := fb_rg' x lo hi h hh f g
  refine ⟨k1, fun z => ⟨fun w => (k2 z).2 (fun q => absurd (Int32.lt_of_lt_of_le q w) Int32.lt_irrefl), fun w => (k2 z).1 (Int32.not_le.mp w)⟩⟩
section
variable {f_openCount f_typeCount f_printedCount f_depthLimit f_fuelLimit f_lastStatus f_lastValue f_lastError f_lastDatum f_lastPlace f_beatsUsed f_frameCount f_mode f_currentNode f_currentEnv f_result f_calls f_inForce f_exitTarget f_exitValue f_exitType f_exitPlace : Int32} {a_nodeOp a_nodeA a_nodeB a_nodeParts a_nodeSize a_slotSize a_slotParams a_openLists a_typeParent a_elements a_locals a_specialValue a_specialHas a_printed a_frames : Nat → Int32} {h_depth h_fuel h_count h_open h_types h_sp h_ret h_xTarget h_xVal h_xType h_xPlace h_have h_exiting h_running h_outcome h_value h_error h_datum h_place h_beats h_printed : Int32} {c_sort c_op c_na c_nb c_up c_val c_size c_params c_parent c_global c_cells c_locals c_has c_node c_got c_handle c_pTarget c_pPlace c_act c_mode c_bVar c_pType c_v0 c_v1 c_v2 c_last c_bVal c_pVal c_out : Nat → Int32}
theorem xl_fit {post : Int32 → Prop} {O A : Nat → Nat} {os : List Nat} {T o : Nat} {p1 p2 : Int32} (ho : o ≤ 26) (hT : f_typeCount = nI T) (hT2 : T ≤ 15) (hba : ((∃ a t, a < 8 ∧ p1 = nI a ∧ fo_fd O A a os = some t) → post 1) → (¬ (∃ a t, a < 8 ∧ p1 = nI a ∧ fo_fd O A a os = some t) → post 0) → wpX_blockAround (fun r_16 => (((r_16 = (-1) → (post 0)) ∧ (¬ r_16 = (-1) → (post 1))))) (f_openCount, f_typeCount, f_printedCount, f_depthLimit, f_fuelLimit, f_lastStatus, f_lastValue, f_lastError, f_lastDatum, f_lastPlace, f_beatsUsed, f_frameCount, f_mode, f_currentNode, f_currentEnv, f_result, f_calls, f_inForce, f_exitTarget, f_exitValue, f_exitType, f_exitPlace, a_nodeOp, a_nodeA, a_nodeB, a_nodeParts, a_nodeSize, a_slotSize, a_slotParams, a_openLists, a_typeParent, a_elements, a_locals, a_specialValue, a_specialHas, a_printed, a_frames) p1) : (fo_fit T O A os o p1 p2 → post 1) → (¬ fo_fit T O A os o p1 p2 → post 0) → wpX_operandsFit post (f_openCount, f_typeCount, f_printedCount, f_depthLimit, f_fuelLimit, f_lastStatus, f_lastValue, f_lastError, f_lastDatum, f_lastPlace, f_beatsUsed, f_frameCount, f_mode, f_currentNode, f_currentEnv, f_result, f_calls, f_inForce, f_exitTarget, f_exitValue, f_exitType, f_exitPlace, a_nodeOp, a_nodeA, a_nodeB, a_nodeParts, a_nodeSize, a_slotSize, a_slotParams, a_openLists, a_typeParent, a_elements, a_locals, a_specialValue, a_specialHas, a_printed, a_frames) (nI o) p1 p2 := by
  subst hT
  refine fo_27 (Q := fun o => (fo_fit T O A os o p1 p2 → post 1) → (¬ fo_fit T O A os o p1 p2 → post 0) → wpX_operandsFit post (f_openCount, nI T, f_printedCount, f_depthLimit, f_fuelLimit, f_lastStatus, f_lastValue, f_lastError, f_lastDatum, f_lastPlace, f_beatsUsed, f_frameCount, f_mode, f_currentNode, f_currentEnv, f_result, f_calls, f_inForce, f_exitTarget, f_exitValue, f_exitType, f_exitPlace, a_nodeOp, a_nodeA, a_nodeB, a_nodeParts, a_nodeSize, a_slotSize, a_slotParams, a_openLists, a_typeParent, a_elements, a_locals, a_specialValue, a_specialHas, a_printed, a_frames) (nI o) p1 p2) ho ?_ ?_ ?_ ?_ ?_ ?_ ?_ ?_ ?_ ?_ ?_ ?_ ?_ ?_ ?_ ?_ ?_ ?_ ?_ ?_ ?_ ?_ ?_ ?_ ?_ ?_ ?_
  · intro h1 h0
    repeat' first | refine br_t (by decide) ?_ | refine br_f (by decide) ?_ | fail
    exact h1 trivial
  · intro h1 h0
    repeat' first | refine br_t (by decide) ?_ | refine br_f (by decide) ?_ | fail
    exact h1 trivial
  · intro h1 h0
    repeat' first | refine br_t (by decide) ?_ | refine br_f (by decide) ?_ | fail
    exact h1 trivial
  · intro h1 h0
    repeat' first | refine br_t (by decide) ?_ | refine br_f (by decide) ?_ | fail
    exact h1 trivial
  · intro h1 h0
    repeat' first | refine br_t (by decide) ?_ | refine br_f (by decide) ?_ | fail
    exact h1 trivial
  · intro h1 h0
    repeat' first | refine br_t (by decide) ?_ | refine br_f (by decide) ?_ | fail
    exact h1 trivial
  · intro h1 h0
    repeat' first | refine br_t (by decide) ?_ | refine br_f (by decide) ?_ | fail
    exact h1 trivial
  · intro h1 h0
    repeat' first | refine br_t (by decide) ?_ | refine br_f (by decide) ?_ | fail
    exact h1 trivial
  · intro h1 h0
    repeat' first | refine br_t (by decide) ?_ | refine br_f (by decide) ?_ | fail
    exact fb_rg p1 0 12 (by decide) (by decide) (fun h => ⟨rfl, h1 h⟩) (fun h => ⟨rfl, h0 h⟩)
  · intro h1 h0
    repeat' first | refine br_t (by decide) ?_ | refine br_f (by decide) ?_ | fail
    exact fb_rg p1 8 12 (by decide) (by decide) (fun h => ⟨rfl, h1 h⟩) (fun h => ⟨rfl, h0 h⟩)
  · intro h1 h0
    repeat' first | refine br_t (by decide) ?_ | refine br_f (by decide) ?_ | fail
    exact h1 trivial
  · intro h1 h0
    repeat' first | refine br_t (by decide) ?_ | refine br_f (by decide) ?_ | fail
    exact fb_rg p1 0 8 (by decide) (by decide) (fun h => ⟨rfl, h1 h⟩) (fun h => ⟨rfl, h0 h⟩)
  · intro h1 h0
    repeat' first | refine br_t (by decide) ?_ | refine br_f (by decide) ?_ | fail
    exact hba h1 h0
  · intro h1 h0
    repeat' first | refine br_t (by decide) ?_ | refine br_f (by decide) ?_ | fail
    exact h1 trivial
  · intro h1 h0
    repeat' first | refine br_t (by decide) ?_ | refine br_f (by decide) ?_ | fail
    exact h1 trivial
  · intro h1 h0
    repeat' first | refine br_t (by decide) ?_ | refine br_f (by decide) ?_ | fail
    exact h1 trivial
  · intro h1 h0
    repeat' first | refine br_t (by decide) ?_ | refine br_f (by decide) ?_ | fail
    exact fb_rg' p1 1 T (by omega) (by omega) (fun h => br_f (by decide) (fb_rg p2 0 12 (by decide) (by decide) (fun g => br_f (by decide) (h1 ⟨h, g⟩)) (fun g => br_t rfl (h0 (fun z => g z.2))))) (fun h => br_t rfl (h0 (fun z => h z.1)))
  · intro h1 h0
    repeat' first | refine br_t (by decide) ?_ | refine br_f (by decide) ?_ | fail
    exact fb_rg' p1 1 T (by omega) (by omega) (fun h => br_f (by decide) (fb_rg p2 0 12 (by decide) (by decide) (fun g => br_f (by decide) (h1 ⟨h, g⟩)) (fun g => br_t rfl (h0 (fun z => g z.2))))) (fun h => br_t rfl (h0 (fun z => h z.1)))
  · intro h1 h0
    repeat' first | refine br_t (by decide) ?_ | refine br_f (by decide) ?_ | fail
    exact fb_rg p1 0 8 (by decide) (by decide) (fun h => br_f (by decide) (fb_rg p2 0 12 (by decide) (by decide) (fun g => br_f (by decide) (h1 ⟨h, g⟩)) (fun g => br_t rfl (h0 (fun z => g z.2))))) (fun h => br_t rfl (h0 (fun z => h z.1)))
  · intro h1 h0
    repeat' first | refine br_t (by decide) ?_ | refine br_f (by decide) ?_ | fail
    exact fb_rg p1 0 8 (by decide) (by decide) (fun h => ⟨rfl, h1 h⟩) (fun h => ⟨rfl, h0 h⟩)
  · intro h1 h0
    repeat' first | refine br_t (by decide) ?_ | refine br_f (by decide) ?_ | fail
    exact fb_rg' p1 1 T (by omega) (by omega) (fun h => ⟨rfl, h1 h⟩) (fun h => ⟨rfl, h0 h⟩)
  · intro h1 h0
    repeat' first | refine br_t (by decide) ?_ | refine br_f (by decide) ?_ | fail
    exact fb_rg' p1 1 T (by omega) (by omega) (fun h => ⟨rfl, h1 h⟩) (fun h => ⟨rfl, h0 h⟩)
  · intro h1 h0
    repeat' first | refine br_t (by decide) ?_ | refine br_f (by decide) ?_ | fail
    exact h1 trivial
  · intro h1 h0
    repeat' first | refine br_t (by decide) ?_ | refine br_f (by decide) ?_ | fail
    exact fb_rg p1 0 6 (by decide) (by decide) (fun h => ⟨rfl, h1 h⟩) (fun h => ⟨rfl, h0 h⟩)
  · intro h1 h0
    repeat' first | refine br_t (by decide) ?_ | refine br_f (by decide) ?_ | fail
    exact fb_rg p1 0 4 (by decide) (by decide) (fun h => ⟨rfl, h1 h⟩) (fun h => ⟨rfl, h0 h⟩)
  · intro h1 h0
    repeat' first | refine br_t (by decide) ?_ | refine br_f (by decide) ?_ | fail
    exact fb_rg p1 0 4 (by decide) (by decide) (fun h => ⟨rfl, h1 h⟩) (fun h => ⟨rfl, h0 h⟩)
  · intro h1 h0
    repeat' first | refine br_t (by decide) ?_ | refine br_f (by decide) ?_ | fail
    exact fb_rg p1 8 12 (by decide) (by decide) (fun h => ⟨rfl, h1 h⟩) (fun h => ⟨rfl, h0 h⟩)
theorem yl_fit {post : Int32 → Prop} {O A : Nat → Nat} {os : List Nat} {T o : Nat} {p1 p2 : Int32} (ho : o ≤ 26) (hT : h_types = nI T) (hT2 : T ≤ 15) (hba : ((∃ a t, a < 8 ∧ p1 = nI a ∧ fo_fd O A a os = some t) → post 1) → (¬ (∃ a t, a < 8 ∧ p1 = nI a ∧ fo_fd O A a os = some t) → post 0) → ((0 ≤ h_open → (wY_operandsFit_93 post 12 p1 (336 + h_open) h_depth h_fuel h_count h_open h_types h_sp h_ret h_xTarget h_xVal h_xType h_xPlace h_have h_exiting h_running h_outcome h_value h_error h_datum h_place h_beats h_printed c_sort c_op c_na c_nb c_up c_val c_size c_params c_parent c_global c_cells c_locals c_has c_node c_got c_handle c_pTarget c_pPlace c_act c_mode c_bVar c_pType c_v0 c_v1 c_v2 c_last c_bVal c_pVal c_out)) ∧ (¬ 0 ≤ h_open → (wY_operandsFit_93 post 12 p1 (-1) h_depth h_fuel h_count h_open h_types h_sp h_ret h_xTarget h_xVal h_xType h_xPlace h_have h_exiting h_running h_outcome h_value h_error h_datum h_place h_beats h_printed c_sort c_op c_na c_nb c_up c_val c_size c_params c_parent c_global c_cells c_locals c_has c_node c_got c_handle c_pTarget c_pPlace c_act c_mode c_bVar c_pType c_v0 c_v1 c_v2 c_last c_bVal c_pVal c_out)))) : (fo_fit T O A os o p1 p2 → post 1) → (¬ fo_fit T O A os o p1 p2 → post 0) → wpY_operandsFit post (h_depth, h_fuel, h_count, h_open, h_types, h_sp, h_ret, h_xTarget, h_xVal, h_xType, h_xPlace, h_have, h_exiting, h_running, h_outcome, h_value, h_error, h_datum, h_place, h_beats, h_printed, c_sort, c_op, c_na, c_nb, c_up, c_val, c_size, c_params, c_parent, c_global, c_cells, c_locals, c_has, c_node, c_got, c_handle, c_pTarget, c_pPlace, c_act, c_mode, c_bVar, c_pType, c_v0, c_v1, c_v2, c_last, c_bVal, c_pVal, c_out) (nI o) p1 p2 := by
  subst hT
  refine fo_27 (Q := fun o => (fo_fit T O A os o p1 p2 → post 1) → (¬ fo_fit T O A os o p1 p2 → post 0) → wpY_operandsFit post (h_depth, h_fuel, h_count, h_open, nI T, h_sp, h_ret, h_xTarget, h_xVal, h_xType, h_xPlace, h_have, h_exiting, h_running, h_outcome, h_value, h_error, h_datum, h_place, h_beats, h_printed, c_sort, c_op, c_na, c_nb, c_up, c_val, c_size, c_params, c_parent, c_global, c_cells, c_locals, c_has, c_node, c_got, c_handle, c_pTarget, c_pPlace, c_act, c_mode, c_bVar, c_pType, c_v0, c_v1, c_v2, c_last, c_bVal, c_pVal, c_out) (nI o) p1 p2) ho ?_ ?_ ?_ ?_ ?_ ?_ ?_ ?_ ?_ ?_ ?_ ?_ ?_ ?_ ?_ ?_ ?_ ?_ ?_ ?_ ?_ ?_ ?_ ?_ ?_ ?_ ?_
  · intro h1 h0
    repeat' first | refine br_t (by decide) ?_ | refine br_f (by decide) ?_ | fail
    exact h1 trivial
  · intro h1 h0
    repeat' first | refine br_t (by decide) ?_ | refine br_f (by decide) ?_ | fail
    exact h1 trivial
  · intro h1 h0
    repeat' first | refine br_t (by decide) ?_ | refine br_f (by decide) ?_ | fail
    exact h1 trivial
  · intro h1 h0
    repeat' first | refine br_t (by decide) ?_ | refine br_f (by decide) ?_ | fail
    exact h1 trivial
  · intro h1 h0
    repeat' first | refine br_t (by decide) ?_ | refine br_f (by decide) ?_ | fail
    exact h1 trivial
  · intro h1 h0
    repeat' first | refine br_t (by decide) ?_ | refine br_f (by decide) ?_ | fail
    exact h1 trivial
  · intro h1 h0
    repeat' first | refine br_t (by decide) ?_ | refine br_f (by decide) ?_ | fail
    exact h1 trivial
  · intro h1 h0
    repeat' first | refine br_t (by decide) ?_ | refine br_f (by decide) ?_ | fail
    exact h1 trivial
  · intro h1 h0
    repeat' first | refine br_t (by decide) ?_ | refine br_f (by decide) ?_ | fail
    exact fb_rg' p1 0 11 (by decide) (by decide) h1 h0
  · intro h1 h0
    repeat' first | refine br_t (by decide) ?_ | refine br_f (by decide) ?_ | fail
    exact fb_rg' p1 8 11 (by decide) (by decide) h1 h0
  · intro h1 h0
    repeat' first | refine br_t (by decide) ?_ | refine br_f (by decide) ?_ | fail
    exact h1 trivial
  · intro h1 h0
    repeat' first | refine br_t (by decide) ?_ | refine br_f (by decide) ?_ | fail
    exact fb_rg' p1 0 7 (by decide) (by decide) h1 h0
  · intro h1 h0
    repeat' first | refine br_t (by decide) ?_ | refine br_f (by decide) ?_ | fail
    exact hba h1 h0
  · intro h1 h0
    repeat' first | refine br_t (by decide) ?_ | refine br_f (by decide) ?_ | fail
    exact h1 trivial
  · intro h1 h0
    repeat' first | refine br_t (by decide) ?_ | refine br_f (by decide) ?_ | fail
    exact h1 trivial
  · intro h1 h0
    repeat' first | refine br_t (by decide) ?_ | refine br_f (by decide) ?_ | fail
    exact h1 trivial
  · intro h1 h0
    repeat' first | refine br_t (by decide) ?_ | refine br_f (by decide) ?_ | fail
    refine fb_rgY p2 0 11 (by decide) (by decide) (fun g => ?_) (fun g => h0 (fun z => g z.2))
    repeat' first | refine br_t (by decide) ?_ | refine br_f (by decide) ?_ | fail
    exact fb_rg' p1 1 T (by omega) (by omega) (fun h => h1 ⟨h, g⟩) (fun h => h0 (fun z => h z.1))
  · intro h1 h0
    repeat' first | refine br_t (by decide) ?_ | refine br_f (by decide) ?_ | fail
    refine fb_rgY p2 0 11 (by decide) (by decide) (fun g => ?_) (fun g => h0 (fun z => g z.2))
    repeat' first | refine br_t (by decide) ?_ | refine br_f (by decide) ?_ | fail
    exact fb_rg' p1 1 T (by omega) (by omega) (fun h => h1 ⟨h, g⟩) (fun h => h0 (fun z => h z.1))
  · intro h1 h0
    repeat' first | refine br_t (by decide) ?_ | refine br_f (by decide) ?_ | fail
    refine fb_rgY p2 0 11 (by decide) (by decide) (fun g => ?_) (fun g => h0 (fun z => g z.2))
    repeat' first | refine br_t (by decide) ?_ | refine br_f (by decide) ?_ | fail
    exact fb_rg' p1 0 7 (by decide) (by decide) (fun h => h1 ⟨h, g⟩) (fun h => h0 (fun z => h z.1))
  · intro h1 h0
    repeat' first | refine br_t (by decide) ?_ | refine br_f (by decide) ?_ | fail
    exact fb_rg' p1 0 7 (by decide) (by decide) h1 h0
  · intro h1 h0
    repeat' first | refine br_t (by decide) ?_ | refine br_f (by decide) ?_ | fail
    exact fb_rg' p1 1 T (by omega) (by omega) h1 h0
  · intro h1 h0
    repeat' first | refine br_t (by decide) ?_ | refine br_f (by decide) ?_ | fail
    exact fb_rg' p1 1 T (by omega) (by omega) h1 h0
  · intro h1 h0
    repeat' first | refine br_t (by decide) ?_ | refine br_f (by decide) ?_ | fail
    exact h1 trivial
  · intro h1 h0
    repeat' first | refine br_t (by decide) ?_ | refine br_f (by decide) ?_ | fail
    have K := fb_rg' p1 0 5 (by decide) (by decide) h1 h0
    exact ⟨K.1, fun z => br_t (by decide) (K.2 z)⟩
  · intro h1 h0
    repeat' first | refine br_t (by decide) ?_ | refine br_f (by decide) ?_ | fail
    have K := fb_rg' p1 0 3 (by decide) (by decide) h1 h0
    exact ⟨K.1, fun z => br_f (by decide) (K.2 z)⟩
  · intro h1 h0
    repeat' first | refine br_t (by decide) ?_ | refine br_f (by decide) ?_ | fail
    have K := fb_rg' p1 0 3 (by decide) (by decide) h1 h0
    exact ⟨K.1, fun z => br_f (by decide) (K.2 z)⟩
  · intro h1 h0
    repeat' first | refine br_t (by decide) ?_ | refine br_f (by decide) ?_ | fail
    exact fb_rg' p1 8 11 (by decide) (by decide) h1 h0
end
