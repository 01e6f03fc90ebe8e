/-! the relation between the two states -/
def fo_least (o : Nat) : Nat := if o < 6 ∨ o = 14 ∨ o = 25 then 2 else if o = 6 then 3 else if o = 7 ∨ o = 11 ∨ o = 23 ∨ o = 26 then 0 else 1
def fo_most (o : Nat) : Nat := if o = 7 ∨ o = 9 ∨ o = 10 ∨ o = 11 ∨ o = 13 ∨ (15 ≤ o ∧ o ≤ 18) then 56 else if o = 23 then 3 else fo_least o
def fo_ma (o : Nat) : Prop := o = 8 ∨ o = 9 ∨ o = 11 ∨ o = 12 ∨ (16 ≤ o ∧ o ≤ 21) ∨ (23 ≤ o ∧ o ≤ 26)
def fo_ar (T o a : Nat) : Prop := (o = 8 → a < 12) ∧ (o = 9 ∨ o = 26 → 8 ≤ a ∧ a < 12) ∧ (o = 11 ∨ o = 12 ∨ o = 18 ∨ o = 19 → a < 8) ∧ (o = 16 ∨ o = 17 ∨ o = 20 ∨ o = 21 → 1 ≤ a ∧ a ≤ T) ∧ (o = 23 → a < 6) ∧ (o = 24 ∨ o = 25 → a < 4)
theorem fo_ar_mono {T T' o a : Nat} (h : T ≤ T') (g : fo_ar T o a) : fo_ar T' o a := by
  obtain ⟨h1, h2, h3, h4, h5, h6⟩ := g
  exact ⟨h1, h2, h3, fun z => ⟨(h4 z).1, Nat.le_trans (h4 z).2 h⟩, h5, h6⟩
/-- a node as both sides keep it -/
def fo_N (xo xa xb xk yt yo ya yb yu yv : Nat → Int32) (P O A : Nat → Nat) (T b cnt i : Nat) : Prop :=
  xo (b + i) = nI (O (b + i)) ∧ O (b + i) ≤ 28 ∧ xk (b + i) = nI (fo_kids P b cnt i).length ∧ yu (b + i) = nI (P (b + i)) - 1 ∧
  (O (b + i) = 27 → yt (b + i) = 1 ∧ yv (b + i) = xa (b + i)) ∧
  (O (b + i) = 28 → yt (b + i) = 2 ∧ yv (b + i) = xa (b + i) ∧ xa (b + i) = nI (A (b + i)) ∧ A (b + i) < 12) ∧
  (O (b + i) ≤ 26 → yt (b + i) = 0 ∧ yo (b + i) = nI (O (b + i)) ∧ fo_ar T (O (b + i)) (A (b + i)) ∧
    (fo_ma (O (b + i)) → xa (b + i) = nI (A (b + i)) ∧ ya (b + i) = nI (A (b + i))) ∧
    (16 ≤ O (b + i) → O (b + i) ≤ 18 → ∃ w, w < 12 ∧ xb (b + i) = nI w ∧ yb (b + i) = nI w) ∧
    (O (b + i) = 12 → ∃ t, t ≤ i ∧ xb (b + i) = nI (i - t) ∧ fo_ba P O A b (A (b + i)) 14 (i + 1) = some t)) ∧
  (∀ j, j + 1 = P (b + i) → O (b + j) ≤ 26)
def fo_Slot (xo xa xb xk xz yt yo ya yb yu yv : Nat → Int32) (P Z O A : Nat → Nat) (T b cnt : Nat) (os : List Nat) : Prop :=
  cnt ≤ 56 ∧ fo_Tree P Z b cnt os ∧ (∀ i, i < cnt → i ∉ os → xz (b + i) = nI (Z (b + i))) ∧ ∀ i, i < cnt → fo_N xo xa xb xk yt yo ya yb yu yv P O A T b cnt i ∧ (i ∉ os → O (b + i) ≤ 26 → fo_least (O (b + i)) ≤ (fo_kids P b cnt i).length)
/-- an array of bytes -/
def rl_Fb (a : Nat → Int32) : Prop := ∀ j, vp_nar .byte (a j) = a j
theorem rl_Fb_upd {a : Nat → Int32} {k : Nat} {x : Int32} (h : rl_Fb a) (hx : vp_nar .byte x = x) : rl_Fb (upd a k x) := by
  intro j
  by_cases e : j = k
  · rw [e, pk_us]; exact hx
  · rw [pk_un e]; exact h j
/-- the tables of nodes -/
def rl_T (xo xa xb xk xz xs xp xl : Nat → Int32) (oc : Int32) (yt yo ya yb yu yv ys yp : Nat → Int32) (ct op : Int32) (T : Nat) : Prop :=
  ∃ (P Z O A C ps : Nat → Nat) (os : List Nat),
    (∀ s, s < 6 → fo_Slot xo xa xb xk xz yt yo ya yb yu yv P Z O A T (56 * s) (C s) [] ∧ xs s = nI (C s) ∧ ys s = nI (C s) ∧ xp s = nI (ps s) ∧ yp s = nI (ps s) ∧ ps s ≤ 3) ∧
    fo_Slot xo xa xb xk xz yt yo ya yb yu yv P Z O A T 336 (C 6) os ∧ fo_Os P os ∧ os.length ≤ 12 ∧ fo_OL xl os ∧ oc = nI os.length ∧ op = nI (fo_q os) - 1 ∧ xs 6 = nI (C 6) ∧ ct = nI (C 6) ∧ (∀ o, o ∈ os → O (336 + o) ≤ 26) ∧ rl_Fb yt ∧ rl_Fb yo ∧ rl_Fb ya ∧ rl_Fb yb ∧ rl_Fb yu
def rl_Ty (T : Nat) (par : Nat → Int32) : Prop := 9 ≤ T ∧ T ≤ 15 ∧ ∃ p : Nat → Nat, ∀ t, t < 16 → par t = nI (p t) ∧ (1 ≤ t → p t < t)
def m_kb (a : Nat) (v : Int32) : Int32 := if a = 0 then v &&& 1 else if a = 1 then v.toInt8.toInt32 else if a = 2 then v.toInt16.toInt32 else v &&& 65535
/-- the arrays hold what they can hold -/
def rl_Ce (ce : Nat → Int32) : Prop := ∀ a i, a < 4 → i < 16 → m_kb a (ce (16 * a + i)) = ce (16 * a + i)
def rl_Sp (sv sh g h : Nat → Int32) : Prop := ∀ j, j < 4 → (sh j = 0 ∨ sh j = 1) ∧ h (8 + j) = sh j ∧ (sh j ≠ 0 → g (8 + j) = sv j)
def i_Rel (_ : Nat) (u : SX) (v : SY) : Prop := match u, v with
  | (f_openCount, f_typeCount, f_printedCount, f_depthLimit, f_fuelLimit, f_lastStatus, f_lastValue, f_lastError, f_lastDatum, f_lastPlace, f_beatsUsed, f_frameCount, f_mode, f_currentNode, f_currentEnv, f_result, f_calls, f_inForce, f_exitTarget, f_exitValue, f_exitType, f_exitPlace, a_nodeOp, a_nodeA, a_nodeB, a_nodeParts, a_nodeSize, a_slotSize, a_slotParams, a_openLists, a_typeParent, a_elements, a_locals, a_specialValue, a_specialHas, a_printed, a_frames), (h_depth, h_fuel, h_count, h_open, h_types, h_sp, h_ret, h_xTarget, h_xVal, h_xType, h_xPlace, h_have, h_exiting, h_running, h_outcome, h_value, h_error, h_datum, h_place, h_beats, h_printed, c_sort, c_op, c_na, c_nb, c_up, c_val, c_size, c_params, c_parent, c_global, c_cells, c_locals, c_has, c_node, c_got, c_handle, c_pTarget, c_pPlace, c_act, c_mode, c_bVar, c_pType, c_v0, c_v1, c_v2, c_last, c_bVal, c_pVal, c_out) => ∃ T d F : Nat,
    (f_typeCount = nI T ∧ h_types = nI T ∧ rl_Ty T a_typeParent ∧ c_parent = a_typeParent) ∧
    (f_depthLimit = nI d ∧ h_depth = nI d ∧ 1 ≤ d ∧ d ≤ 5) ∧ (f_fuelLimit = nI F ∧ h_fuel = nI F ∧ 1 ≤ F ∧ F ≤ 200) ∧
    (h_value = f_lastValue ∧ h_error = f_lastError ∧ h_datum = f_lastDatum ∧ h_place = f_lastPlace ∧ h_beats = f_beatsUsed) ∧
    (h_printed = f_printedCount ∧ c_out = a_printed ∧ c_cells = a_elements ∧ c_locals = a_locals ∧ rl_Ce a_elements) ∧
    rl_Sp a_specialValue a_specialHas c_global c_has ∧
    rl_T a_nodeOp a_nodeA a_nodeB a_nodeParts a_nodeSize a_slotSize a_slotParams a_openLists f_openCount c_sort c_op c_na c_nb c_up c_val c_size c_params h_count h_open T
theorem i_up {k : Nat} {u : SX} {v : SY} (h : i_Rel k u v) : i_Rel (k + 4) u v := h
theorem i_vc_value {k : Nat} {u : SX} {v : SY} (I : i_Rel k u v) (hk : k + 4 ≤ 2050) : wpX_value (fun r => wpY_value (fun r' => r' = r ∧ i_Rel (k + 4) u v) v) u := by
  obtain ⟨f_openCount, f_typeCount, f_printedCount, f_depthLimit, f_fuelLimit, f_lastStatus, f_lastValue, f_lastError, f_lastDatum, f_lastPlace, f_beatsUsed, f_frameCount, f_mode, f_currentNode, f_currentEnv, f_result, f_calls, f_inForce, f_exitTarget, f_exitValue, f_exitType, f_exitPlace, a_nodeOp, a_nodeA, a_nodeB, a_nodeParts, a_nodeSize, a_slotSize, a_slotParams, a_openLists, a_typeParent, a_elements, a_locals, a_specialValue, a_specialHas, a_printed, a_frames⟩ := u
  obtain ⟨h_depth, h_fuel, h_count, h_open, h_types, h_sp, h_ret, h_xTarget, h_xVal, h_xType, h_xPlace, h_have, h_exiting, h_running, h_outcome, h_value, h_error, h_datum, h_place, h_beats, h_printed, c_sort, c_op, c_na, c_nb, c_up, c_val, c_size, c_params, c_parent, c_global, c_cells, c_locals, c_has, c_node, c_got, c_handle, c_pTarget, c_pPlace, c_act, c_mode, c_bVar, c_pType, c_v0, c_v1, c_v2, c_last, c_bVal, c_pVal, c_out⟩ := v
  have I' := I
  obtain ⟨T, d, F, _, _, _, ⟨h, _⟩, _⟩ := I'
  exact ⟨h, I⟩
theorem i_vc_error {k : Nat} {u : SX} {v : SY} (I : i_Rel k u v) (hk : k + 4 ≤ 2050) : wpX_error (fun r => wpY_error (fun r' => r' = r ∧ i_Rel (k + 4) u v) v) u := by
  obtain ⟨f_openCount, f_typeCount, f_printedCount, f_depthLimit, f_fuelLimit, f_lastStatus, f_lastValue, f_lastError, f_lastDatum, f_lastPlace, f_beatsUsed, f_frameCount, f_mode, f_currentNode, f_currentEnv, f_result, f_calls, f_inForce, f_exitTarget, f_exitValue, f_exitType, f_exitPlace, a_nodeOp, a_nodeA, a_nodeB, a_nodeParts, a_nodeSize, a_slotSize, a_slotParams, a_openLists, a_typeParent, a_elements, a_locals, a_specialValue, a_specialHas, a_printed, a_frames⟩ := u
  obtain ⟨h_depth, h_fuel, h_count, h_open, h_types, h_sp, h_ret, h_xTarget, h_xVal, h_xType, h_xPlace, h_have, h_exiting, h_running, h_outcome, h_value, h_error, h_datum, h_place, h_beats, h_printed, c_sort, c_op, c_na, c_nb, c_up, c_val, c_size, c_params, c_parent, c_global, c_cells, c_locals, c_has, c_node, c_got, c_handle, c_pTarget, c_pPlace, c_act, c_mode, c_bVar, c_pType, c_v0, c_v1, c_v2, c_last, c_bVal, c_pVal, c_out⟩ := v
  have I' := I
  obtain ⟨T, d, F, _, _, _, ⟨_, h, _⟩, _⟩ := I'
  exact ⟨h, I⟩
theorem i_vc_datum {k : Nat} {u : SX} {v : SY} (I : i_Rel k u v) (hk : k + 4 ≤ 2050) : wpX_datum (fun r => wpY_datum (fun r' => r' = r ∧ i_Rel (k + 4) u v) v) u := by
  obtain ⟨f_openCount, f_typeCount, f_printedCount, f_depthLimit, f_fuelLimit, f_lastStatus, f_lastValue, f_lastError, f_lastDatum, f_lastPlace, f_beatsUsed, f_frameCount, f_mode, f_currentNode, f_currentEnv, f_result, f_calls, f_inForce, f_exitTarget, f_exitValue, f_exitType, f_exitPlace, a_nodeOp, a_nodeA, a_nodeB, a_nodeParts, a_nodeSize, a_slotSize, a_slotParams, a_openLists, a_typeParent, a_elements, a_locals, a_specialValue, a_specialHas, a_printed, a_frames⟩ := u
  obtain ⟨h_depth, h_fuel, h_count, h_open, h_types, h_sp, h_ret, h_xTarget, h_xVal, h_xType, h_xPlace, h_have, h_exiting, h_running, h_outcome, h_value, h_error, h_datum, h_place, h_beats, h_printed, c_sort, c_op, c_na, c_nb, c_up, c_val, c_size, c_params, c_parent, c_global, c_cells, c_locals, c_has, c_node, c_got, c_handle, c_pTarget, c_pPlace, c_act, c_mode, c_bVar, c_pType, c_v0, c_v1, c_v2, c_last, c_bVal, c_pVal, c_out⟩ := v
  have I' := I
  obtain ⟨T, d, F, _, _, _, ⟨_, _, h, _⟩, _⟩ := I'
  exact ⟨h, I⟩
theorem i_vc_place {k : Nat} {u : SX} {v : SY} (I : i_Rel k u v) (hk : k + 4 ≤ 2050) : wpX_place (fun r => wpY_place (fun r' => r' = r ∧ i_Rel (k + 4) u v) v) u := by
  obtain ⟨f_openCount, f_typeCount, f_printedCount, f_depthLimit, f_fuelLimit, f_lastStatus, f_lastValue, f_lastError, f_lastDatum, f_lastPlace, f_beatsUsed, f_frameCount, f_mode, f_currentNode, f_currentEnv, f_result, f_calls, f_inForce, f_exitTarget, f_exitValue, f_exitType, f_exitPlace, a_nodeOp, a_nodeA, a_nodeB, a_nodeParts, a_nodeSize, a_slotSize, a_slotParams, a_openLists, a_typeParent, a_elements, a_locals, a_specialValue, a_specialHas, a_printed, a_frames⟩ := u
  obtain ⟨h_depth, h_fuel, h_count, h_open, h_types, h_sp, h_ret, h_xTarget, h_xVal, h_xType, h_xPlace, h_have, h_exiting, h_running, h_outcome, h_value, h_error, h_datum, h_place, h_beats, h_printed, c_sort, c_op, c_na, c_nb, c_up, c_val, c_size, c_params, c_parent, c_global, c_cells, c_locals, c_has, c_node, c_got, c_handle, c_pTarget, c_pPlace, c_act, c_mode, c_bVar, c_pType, c_v0, c_v1, c_v2, c_last, c_bVal, c_pVal, c_out⟩ := v
  have I' := I
  obtain ⟨T, d, F, _, _, _, ⟨_, _, _, h, _⟩, _⟩ := I'
  exact ⟨h, I⟩
theorem i_vc_beats {k : Nat} {u : SX} {v : SY} (I : i_Rel k u v) (hk : k + 4 ≤ 2050) : wpX_beats (fun r => wpY_beats (fun r' => r' = r ∧ i_Rel (k + 4) u v) v) u := by
  obtain ⟨f_openCount, f_typeCount, f_printedCount, f_depthLimit, f_fuelLimit, f_lastStatus, f_lastValue, f_lastError, f_lastDatum, f_lastPlace, f_beatsUsed, f_frameCount, f_mode, f_currentNode, f_currentEnv, f_result, f_calls, f_inForce, f_exitTarget, f_exitValue, f_exitType, f_exitPlace, a_nodeOp, a_nodeA, a_nodeB, a_nodeParts, a_nodeSize, a_slotSize, a_slotParams, a_openLists, a_typeParent, a_elements, a_locals, a_specialValue, a_specialHas, a_printed, a_frames⟩ := u
  obtain ⟨h_depth, h_fuel, h_count, h_open, h_types, h_sp, h_ret, h_xTarget, h_xVal, h_xType, h_xPlace, h_have, h_exiting, h_running, h_outcome, h_value, h_error, h_datum, h_place, h_beats, h_printed, c_sort, c_op, c_na, c_nb, c_up, c_val, c_size, c_params, c_parent, c_global, c_cells, c_locals, c_has, c_node, c_got, c_handle, c_pTarget, c_pPlace, c_act, c_mode, c_bVar, c_pType, c_v0, c_v1, c_v2, c_last, c_bVal, c_pVal, c_out⟩ := v
  have I' := I
  obtain ⟨T, d, F, _, _, _, ⟨_, _, _, _, h⟩, _⟩ := I'
  exact ⟨h, I⟩
theorem i_vc_output {k : Nat} {u : SX} {v : SY} (I : i_Rel k u v) (hk : k + 4 ≤ 2050) (v1 : Int32) : wpX_output (fun r => wpY_output (fun r' => r' = r ∧ i_Rel (k + 4) u v) v v1) u v1 := by
  obtain ⟨f_openCount, f_typeCount, f_printedCount, f_depthLimit, f_fuelLimit, f_lastStatus, f_lastValue, f_lastError, f_lastDatum, f_lastPlace, f_beatsUsed, f_frameCount, f_mode, f_currentNode, f_currentEnv, f_result, f_calls, f_inForce, f_exitTarget, f_exitValue, f_exitType, f_exitPlace, a_nodeOp, a_nodeA, a_nodeB, a_nodeParts, a_nodeSize, a_slotSize, a_slotParams, a_openLists, a_typeParent, a_elements, a_locals, a_specialValue, a_specialHas, a_printed, a_frames⟩ := u
  obtain ⟨h_depth, h_fuel, h_count, h_open, h_types, h_sp, h_ret, h_xTarget, h_xVal, h_xType, h_xPlace, h_have, h_exiting, h_running, h_outcome, h_value, h_error, h_datum, h_place, h_beats, h_printed, c_sort, c_op, c_na, c_nb, c_up, c_val, c_size, c_params, c_parent, c_global, c_cells, c_locals, c_has, c_node, c_got, c_handle, c_pTarget, c_pPlace, c_act, c_mode, c_bVar, c_pType, c_v0, c_v1, c_v2, c_last, c_bVal, c_pVal, c_out⟩ := v
  have I' := I
  obtain ⟨T, d, F, _, _, _, _, ⟨h1, h2, _⟩, _⟩ := I'
  subst h1 h2
  by_cases a1 : v1 = -1
  · exact br_t a1 (br_t a1 ⟨rfl, I⟩)
  · refine br_f a1 ?_
    by_cases a2 : v1 < 0
    · exact br_t a2 (br_t rfl (br_f a1 (br_t a2 ⟨rfl, I⟩)))
    · refine br_f a2 ?_
      by_cases a3 : (24 : Int32) ≤ v1
      · exact br_t a3 (br_t rfl (br_f a1 (br_f a2 (br_t a3 ⟨rfl, I⟩))))
      · refine br_f a3 (br_f (by decide) ?_)
        have hi : vp_in v1 24 := by
          obtain ⟨j, hj, rfl⟩ := nI_of a2
          exact vp_in_nI (by
            rcases Nat.lt_or_ge j 24 with g | g
            · exact g
            · exact absurd (nI_le (a := 24) g hj) a3) (by decide)
        by_cases a4 : h_printed ≤ v1
        · exact br_t a4 (br_f a1 (br_f a2 (br_f a3 (br_t a4 ⟨rfl, I⟩))))
        · exact br_f a4 ⟨hi, br_f a1 (br_f a2 (br_f a3 (br_f a4 ⟨hi, rfl, I⟩)))⟩
theorem fb_lt {x : Int32} (a b : Nat) (ha : ¬ x < nI a) (hb : ¬ nI b ≤ x) (hb2 : b < 2 ^ 31) (ha2 : a ≤ b) : ∃ j, j < b - a ∧ x = nI (a + j) := by
  have h0 : ¬ x < 0 := fun z => ha (Int32.lt_of_lt_of_le z (nI_pos' (by omega)))
  obtain ⟨j, hj, rfl⟩ := nI_of h0
  rw [nI_ltI hj (by omega)] at ha
  rw [nI_leI (by omega) hj] at hb
  exact ⟨j - a, by omega, congrArg nI (by omega)⟩
theorem i_vc_special {k : Nat} {u : SX} {v : SY} (I : i_Rel k u v) (hk : k + 4 ≤ 2050) (v1 : Int32) : wpX_special (fun r => wpY_special (fun r' => r' = r ∧ i_Rel (k + 4) u v) v v1) u v1 := by
  obtain ⟨f_openCount, f_typeCount, f_printedCount, f_depthLimit, f_fuelLimit, f_lastStatus, f_lastValue, f_lastError, f_lastDatum, f_lastPlace, f_beatsUsed, f_frameCount, f_mode, f_currentNode, f_currentEnv, f_result, f_calls, f_inForce, f_exitTarget, f_exitValue, f_exitType, f_exitPlace, a_nodeOp, a_nodeA, a_nodeB, a_nodeParts, a_nodeSize, a_slotSize, a_slotParams, a_openLists, a_typeParent, a_elements, a_locals, a_specialValue, a_specialHas, a_printed, a_frames⟩ := u
  obtain ⟨h_depth, h_fuel, h_count, h_open, h_types, h_sp, h_ret, h_xTarget, h_xVal, h_xType, h_xPlace, h_have, h_exiting, h_running, h_outcome, h_value, h_error, h_datum, h_place, h_beats, h_printed, c_sort, c_op, c_na, c_nb, c_up, c_val, c_size, c_params, c_parent, c_global, c_cells, c_locals, c_has, c_node, c_got, c_handle, c_pTarget, c_pPlace, c_act, c_mode, c_bVar, c_pType, c_v0, c_v1, c_v2, c_last, c_bVal, c_pVal, c_out⟩ := v
  have I' := I
  obtain ⟨T, d, F, _, _, _, _, _, hS, _⟩ := I'
  by_cases a1 : v1 < 8
  · exact br_t a1 (br_t rfl (br_t a1 ⟨rfl, I⟩))
  · refine br_f a1 ?_
    by_cases a2 : (12 : Int32) ≤ v1
    · have a3 : (11 : Int32) < v1 := Int32.lt_of_lt_of_le (by decide) a2
      exact br_t a2 (br_t rfl (br_f a1 (br_t a3 ⟨rfl, I⟩)))
    · obtain ⟨j, hj, rfl⟩ := fb_lt 8 12 a1 a2 (by decide) (by decide)
      have a3 : ¬ (11 : Int32) < nI (8 + j) := nI_nlt (b := 8 + j) (a := 11) (by omega) (by decide)
      have e : nI (8 + j) - 8 = nI j := by
        have := pk_sub (a := 8 + j) (b := 8) (by omega)
        rw [Nat.add_sub_cancel_left] at this
        exact this
      have i4 : vp_in (nI (8 + j) - 8) 4 := by rw [e]; exact vp_in_nI hj (by decide)
      have c4 : (nI (8 + j) - 8).toNatClampNeg = j := by rw [e]; exact nI_clamp (by omega)
      have i12 : vp_in (nI (8 + j)) 12 := vp_in_nI (by omega) (by decide)
      have c12 : (nI (8 + j)).toNatClampNeg = 8 + j := nI_clamp (by omega)
      obtain ⟨s1, s2, s3⟩ := hS j hj
      refine br_f a2 (br_f (by decide) ⟨i4, ?_⟩)
      rw [c4]
      by_cases z : a_specialHas j = 0
      · refine br_t z (br_f a1 (br_f a3 ⟨i12, ?_⟩))
        rw [c12]
        exact br_t (s2.trans z) ⟨rfl, I⟩
      · refine br_f z ⟨i4, br_f a1 (br_f a3 ⟨i12, ?_⟩)⟩
        rw [c12]
        exact br_f (fun q => z (s2.symm.trans q)) ⟨i12, congrArg Int32.toInt64 (s3 z), I⟩
theorem i_vc_cell {k : Nat} {u : SX} {v : SY} (I : i_Rel k u v) (hk : k + 4 ≤ 2050) (v1 : Int32) (v2 : Int32) : wpX_cell (fun r => wpY_cell (fun r' => r' = r ∧ i_Rel (k + 4) u v) v v1 v2) u v1 v2 := by
  obtain ⟨f_openCount, f_typeCount, f_printedCount, f_depthLimit, f_fuelLimit, f_lastStatus, f_lastValue, f_lastError, f_lastDatum, f_lastPlace, f_beatsUsed, f_frameCount, f_mode, f_currentNode, f_currentEnv, f_result, f_calls, f_inForce, f_exitTarget, f_exitValue, f_exitType, f_exitPlace, a_nodeOp, a_nodeA, a_nodeB, a_nodeParts, a_nodeSize, a_slotSize, a_slotParams, a_openLists, a_typeParent, a_elements, a_locals, a_specialValue, a_specialHas, a_printed, a_frames⟩ := u
  obtain ⟨h_depth, h_fuel, h_count, h_open, h_types, h_sp, h_ret, h_xTarget, h_xVal, h_xType, h_xPlace, h_have, h_exiting, h_running, h_outcome, h_value, h_error, h_datum, h_place, h_beats, h_printed, c_sort, c_op, c_na, c_nb, c_up, c_val, c_size, c_params, c_parent, c_global, c_cells, c_locals, c_has, c_node, c_got, c_handle, c_pTarget, c_pPlace, c_act, c_mode, c_bVar, c_pType, c_v0, c_v1, c_v2, c_last, c_bVal, c_pVal, c_out⟩ := v
  have I' := I
  obtain ⟨T, d, F, _, _, _, _, ⟨_, _, h3, _⟩, _⟩ := I'
  subst h3
  by_cases a1 : v1 < 0
  · exact br_t a1 (br_t rfl (br_t a1 ⟨rfl, I⟩))
  · refine br_f a1 ?_
    by_cases a2 : (4 : Int32) ≤ v1
    · have a3 : (3 : Int32) < v1 := Int32.lt_of_lt_of_le (by decide) a2
      exact br_t a2 (br_t rfl (br_f a1 (br_t a3 ⟨rfl, I⟩)))
    · obtain ⟨i, hi, rfl⟩ := fb_lt 0 4 a1 a2 (by decide) (by decide)
      rw [Nat.zero_add] at *
      have a3 : ¬ (3 : Int32) < nI i := nI_nlt (b := i) (a := 3) (by omega) (by decide)
      refine br_f a2 (br_f (by decide) ?_)
      by_cases b1 : v2 < 0
      · exact br_t b1 (br_t rfl (br_f a1 (br_f a3 (br_t b1 ⟨rfl, I⟩))))
      · refine br_f b1 ?_
        by_cases b2 : (16 : Int32) ≤ v2
        · have b3 : (15 : Int32) < v2 := Int32.lt_of_lt_of_le (by decide) b2
          exact br_t b2 (br_t rfl (br_f a1 (br_f a3 (br_f b1 (br_t b3 ⟨rfl, I⟩)))))
        · obtain ⟨j, hj, rfl⟩ := fb_lt 0 16 b1 b2 (by decide) (by decide)
          rw [Nat.zero_add] at *
          have b3 : ¬ (15 : Int32) < nI j := nI_nlt (b := j) (a := 15) (by omega) (by decide)
          have e1 : (nI i * 16) + nI j = nI (16 * i + j) := by
            rw [show (16 : Int32) = nI 16 from rfl, pk_mul, nI_add, Nat.mul_comm]
          have e2 : (16 * nI i) + nI j = nI (16 * i + j) := by
            rw [show (16 : Int32) = nI 16 from rfl, pk_mul, nI_add]
          refine br_f b2 (br_f (by decide) ⟨?_, br_f a1 (br_f a3 (br_f b1 (br_f b3 ⟨?_, ?_, I⟩)))⟩)
          · rw [e1]; exact vp_in_nI (by omega) (by decide)
          · rw [e2]; exact vp_in_nI (by omega) (by decide)
          · rw [e1, e2]
theorem i_vc_type {k : Nat} {u : SX} {v : SY} (I : i_Rel k u v) (hk : k + 4 ≤ 2050) (v1 : Int32) : wpX_type (fun r u' => wpY_type (fun r' v' => r' = r ∧ i_Rel (k + 4) u' v') v v1) u v1 := by
  obtain ⟨f_openCount, f_typeCount, f_printedCount, f_depthLimit, f_fuelLimit, f_lastStatus, f_lastValue, f_lastError, f_lastDatum, f_lastPlace, f_beatsUsed, f_frameCount, f_mode, f_currentNode, f_currentEnv, f_result, f_calls, f_inForce, f_exitTarget, f_exitValue, f_exitType, f_exitPlace, a_nodeOp, a_nodeA, a_nodeB, a_nodeParts, a_nodeSize, a_slotSize, a_slotParams, a_openLists, a_typeParent, a_elements, a_locals, a_specialValue, a_specialHas, a_printed, a_frames⟩ := u
  obtain ⟨h_depth, h_fuel, h_count, h_open, h_types, h_sp, h_ret, h_xTarget, h_xVal, h_xType, h_xPlace, h_have, h_exiting, h_running, h_outcome, h_value, h_error, h_datum, h_place, h_beats, h_printed, c_sort, c_op, c_na, c_nb, c_up, c_val, c_size, c_params, c_parent, c_global, c_cells, c_locals, c_has, c_node, c_got, c_handle, c_pTarget, c_pPlace, c_act, c_mode, c_bVar, c_pType, c_v0, c_v1, c_v2, c_last, c_bVal, c_pVal, c_out⟩ := v
  have I' := I
  obtain ⟨T, d, F, ⟨e1, e2, ⟨t1, t2, p, hp⟩, e4⟩, R2, R3, R4, R5, R6, R7⟩ := I'
  subst e1 e2 e4
  by_cases a1 : v1 < 1
  · exact br_t a1 (br_t rfl (br_t a1 ⟨rfl, I⟩))
  · refine br_f a1 ?_
    by_cases a2 : nI T < v1
    · exact br_t a2 (br_t rfl (br_f a1 (br_t a2 ⟨rfl, I⟩)))
    · refine br_f a2 (br_f (by decide) ?_)
      have hv : ∃ j, j ≤ T ∧ v1 = nI j ∧ 1 ≤ j := by
        have h0 : ¬ v1 < 0 := fun z => a1 (Int32.lt_trans z (by decide))
        obtain ⟨j, hj, rfl⟩ := nI_of h0
        rw [nI_ltI (by omega) hj] at a2
        refine ⟨j, by omega, rfl, ?_⟩
        rcases Nat.eq_zero_or_pos j with z | z
        · subst z
          exact absurd (by decide) a1
        · exact z
      obtain ⟨j, j1, rfl, j2⟩ := hv
      rcases Nat.lt_or_ge T 15 with h | h
      · have b1 : nI T < 15 := nI_lt (b := 15) h (by decide)
        have b2 : ¬ nI T = 15 := fun z => by
          rw [show (15 : Int32) = nI 15 from rfl, nI_eq (by omega) (by decide)] at z
          omega
        refine br_t b1 (nm_r (nI_1 T) ⟨vp_in_nI (by omega) (by decide), ?_⟩)
        rw [nI_clamp (by omega)]
        refine nm_e (br_f a1 (br_f a2 (br_f b2 (nm_r (nI_1 T) ⟨vp_in_nI (by omega) (by decide), ?_⟩))))
        rw [nI_clamp (by omega)]
        refine nm_e ⟨rfl, T + 1, d, F, ⟨rfl, rfl, ⟨by omega, by omega, fo_up p (T + 1) j, fun t ht => ?_⟩, rfl⟩, R2, R3, R4, R5, R6, ?_⟩
        · by_cases e : t = T + 1
          · rw [e, pk_us, fo_us]; exact ⟨rfl, fun _ => by omega⟩
          · rw [pk_un e, fo_un e]; exact hp t ht
        · obtain ⟨P, Z, O, A, C, ps, os, F1, F2, F3⟩ := R7
          have mono : ∀ {b cnt i : Nat}, fo_N a_nodeOp a_nodeA a_nodeB a_nodeParts c_sort c_op c_na c_nb c_up c_val P O A T b cnt i → fo_N a_nodeOp a_nodeA a_nodeB a_nodeParts c_sort c_op c_na c_nb c_up c_val P O A (T + 1) b cnt i := by
            intro b cnt i N
            obtain ⟨n1, n2, n3, n4, n5, n6, n7, n8⟩ := N
            exact ⟨n1, n2, n3, n4, n5, n6, fun z => ⟨(n7 z).1, (n7 z).2.1, fo_ar_mono (Nat.le_succ T) (n7 z).2.2.1, (n7 z).2.2.2⟩, n8⟩
          exact ⟨P, Z, O, A, C, ps, os, fun s hs => ⟨⟨(F1 s hs).1.1, (F1 s hs).1.2.1, (F1 s hs).1.2.2.1, fun i hi => ⟨mono ((F1 s hs).1.2.2.2 i hi).1, ((F1 s hs).1.2.2.2 i hi).2⟩⟩, (F1 s hs).2⟩, ⟨F2.1, F2.2.1, F2.2.2.1, fun i hi => ⟨mono (F2.2.2.2 i hi).1, (F2.2.2.2 i hi).2⟩⟩, F3⟩
      · have e : T = 15 := by omega
        subst e
        exact br_f (by decide) (br_f a1 (br_f a2 (br_t rfl ⟨rfl, I⟩)))
