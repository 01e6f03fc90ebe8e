/-! num, ref, close, drop and the constructors -/
theorem fo_q_le {P Z : Nat → Nat} {cnt : Nat} {os : List Nat} (T : fo_Tree P Z 336 cnt os) : fo_q os ≤ cnt := by
  cases os with
  | nil => exact Nat.zero_le _
  | cons o r => exact (T.2.2 o (List.mem_cons_self ..)).1
theorem rl_T_add {xo xa xb xk xz xs xp xl' yt yo ya yb yu yv yo' ya' yb' ys yp : Nat → Int32} {P Z O A C ps : Nat → Nat} {T o a : Nat} {os os' : List Nat} {wa wb wt wv : Int32}
    (F1 : ∀ s, s < 6 → fo_Slot xo xa xb xk xz yt yo ya yb yu yv P Z O A T (56 * s) (C s) [] ∧ xs s = nI (C s) ∧ ys s = nI (C s) ∧ xp s = nI (ps s) ∧ yp s = nI (ps s) ∧ ps s ≤ 3)
    (F2 : fo_Slot xo xa xb xk xz yt yo ya yb yu yv P Z O A T 336 (C 6) os) (F3 : fo_Os P os) (F10 : ∀ o, o ∈ os → O (336 + o) ≤ 26) (h0 : os = [] → C 6 = 0) (hc : C 6 < 56) (hos : os' = os ∨ os' = C 6 :: os) (ho1 : os' = C 6 :: os → o ≤ 26) (hlf : os' = os → 27 ≤ o) (hl : os'.length ≤ 12) (hol : fo_OL xl' os')
    (hyo : ∀ j, j ≠ 336 + C 6 → yo' j = yo j) (hya : ∀ j, j ≠ 336 + C 6 → ya' j = ya j) (hyb : ∀ j, j ≠ 336 + C 6 → yb' j = yb j) (ho : o ≤ 28) (f1 : rl_Fb yt ∧ vp_nar .byte wt = wt) (f2 : rl_Fb yo' ∧ rl_Fb ya' ∧ rl_Fb yb' ∧ rl_Fb yu)
    (c27 : o = 27 → wt = 1 ∧ wv = wa) (c28 : o = 28 → wt = 2 ∧ wv = wa ∧ wa = nI a ∧ a < 12)
    (c26 : o ≤ 26 → wt = 0 ∧ yo' (336 + C 6) = nI o ∧ fo_ar T o a ∧ (fo_ma o → wa = nI a ∧ ya' (336 + C 6) = nI a) ∧ (16 ≤ o → o ≤ 18 → ∃ w, w < 12 ∧ wb = nI w ∧ yb' (336 + C 6) = nI w) ∧ (o = 12 → ∃ t, t ≤ C 6 ∧ wb = nI (C 6 - t) ∧ fo_ba P O A 336 a 13 (fo_q os) = some t)) :
    rl_T (upd xo (336 + C 6) (nI o)) (upd xa (336 + C 6) wa) (upd xb (336 + C 6) wb) (fo_kp (upd xk (336 + C 6) 0) os) (upd xz (336 + C 6) 1) (upd xs 6 (nI (C 6 + 1))) xp xl' (nI os'.length) (upd yt (336 + C 6) wt) yo' ya' yb' (upd yu (336 + C 6) (nI (fo_q os) - 1)) (upd yv (336 + C 6) wv) ys yp (nI (C 6 + 1)) (nI (fo_q os') - 1) T := by
  obtain ⟨A1, A2⟩ := fo_Slot_add (o := o) (a := a) (wa := wa) (wb := wb) (wt := wt) (wv := wv) (yo' := yo') (ya' := ya') (yb' := yb') F2 F3 F10 h0 hc hos hlf (fun j hj => hyo _ (by omega)) (fun j hj => hya _ (by omega)) (fun j hj => hyb _ (by omega)) ho c27 c28 c26
  refine ⟨fo_up P (336 + C 6) (fo_q os), fo_up Z (336 + C 6) 1, fo_up O (336 + C 6) o, fo_up A (336 + C 6) a, fo_up C 6 (C 6 + 1), ps, os', fun s hs => ?_, ?_, A2, hl, hol, rfl, rfl, ?_, ?_, fun p hp => ?_, rl_Fb_upd f1.1 f1.2, f2.1, f2.2.1, f2.2.2.1, rl_Fb_upd f2.2.2.2 (fb_up' (by have := fo_q_le F2.2.1; omega))⟩
  · obtain ⟨G1, G2, G3⟩ := F1 s hs
    rw [fo_un (by omega), pk_un (by omega)]
    exact ⟨fo_Slot_far hs G1 (fun j hj => hyo _ (by omega)) (fun j hj => hya _ (by omega)) (fun j hj => hyb _ (by omega)), G2, G3⟩
  · rw [fo_us]; exact A1
  · rw [fo_us, pk_us]
  · rw [fo_us]
  · by_cases e : p = C 6
    · rw [e, fo_us]
      rcases hos with h | h
      · rw [h, e] at hp
        exact absurd (F2.2.1.2.2 _ hp).1 (Nat.lt_irrefl _)
      · exact ho1 h
    · rw [fo_un (by omega)]
      rcases hos with h | h
      · rw [h] at hp; exact F10 p hp
      · rw [h] at hp
        rcases List.mem_cons.mp hp with g | g
        · exact absurd g e
        · exact F10 p g
theorem fo_rm_h0 {P O : Nat → Nat} {cnt : Nat} {os : List Nat} (h : fo_rm P O cnt os) : (os = [] → cnt = 0) ∧ cnt < 56 := by
  cases os with
  | nil => exact ⟨fun _ => h, by have : cnt = 0 := h; omega⟩
  | cons o r => exact ⟨fun z => (by cases z), h.1⟩
theorem i_vc_num {k : Nat} {u : SX} {v : SY} (I : i_Rel k u v) (hk : k + 4 ≤ 2050) (v1 : Int32) : wpX_num (fun r u' => wpY_num (fun r' v' => r' = r ∧ i_Rel (k + 4) u' v') v v1) u v1 := by
  obtain ⟨f_openCount, f_typeCount, f_printedCount, f_depthLimit, f_fuelLimit, f_lastStatus, f_lastValue, f_lastError, f_lastDatum, f_lastPlace, f_beatsUsed, f_frameCount, f_mode, f_currentNode, f_currentEnv, f_result, f_calls, f_inForce, f_exitTarget, f_exitValue, f_exitType, f_exitPlace, a_nodeOp, a_nodeA, a_nodeB, a_nodeParts, a_nodeSize, a_slotSize, a_slotParams, a_openLists, a_typeParent, a_elements, a_locals, a_specialValue, a_specialHas, a_printed, a_frames⟩ := u
  obtain ⟨h_depth, h_fuel, h_count, h_open, h_types, h_sp, h_ret, h_xTarget, h_xVal, h_xType, h_xPlace, h_have, h_exiting, h_running, h_outcome, h_value, h_error, h_datum, h_place, h_beats, h_printed, c_sort, c_op, c_na, c_nb, c_up, c_val, c_size, c_params, c_parent, c_global, c_cells, c_locals, c_has, c_node, c_got, c_handle, c_pTarget, c_pPlace, c_act, c_mode, c_bVar, c_pType, c_v0, c_v1, c_v2, c_last, c_bVal, c_pVal, c_out⟩ := v
  have I' := I
  obtain ⟨T, d, F, R1, R2, R3, R4, R5, R6, P, Z, O, A, C, ps, os, F1, F2, F3, F4, F5, F6, F7, F8, F9, F10, F11⟩ := I'
  have hq := fo_q_le F2.2.1
  have hc := F2.1
  unfold wpX_num
  dsimp only
  refine xl_room F2 F10 F4 F5 F6 F8 (fun h => ?_) (fun h => ?_)
  · obtain ⟨h0, hc6⟩ := fo_rm_h0 h
    refine br_f (by decide) ?_
    refine xl_add 27 v1 0 hc6 F4 F5 (fun o ho => by have := (F2.2.1.2.2 o ho).1; omega) F6 F8 ?_
    unfold wpY_num
    dsimp only
    refine yl_room F2 F10 F7 F9 (fun _ => ?_) (fun g => absurd h g)
    refine br_f (by decide) ?_
    refine yl_add (w := 1) v1 (by decide) hc6 (by omega) F7 F9 ?_
    refine ⟨rfl, T, d, F, R1, R2, R3, R4, R5, R6, ?_⟩
    subst F6 F7
    exact rl_T_add (o := 27) (a := 0) F1 F2 F3 F10 h0 hc6 (Or.inl rfl) (fun e => absurd (congrArg List.length e) (by simp)) (fun _ => by decide) F4 F5 (fun j hj => pk_un hj) (fun j hj => rfl) (fun j hj => rfl) (by decide) ⟨F11.1, fb_byte' (n := 1) (by decide)⟩ ⟨rl_Fb_upd F11.2.1 (by rw [vp_nar_byte]; decide), F11.2.2.1, F11.2.2.2.1, F11.2.2.2.2⟩ (fun _ => ⟨rfl, rfl⟩) (fun e => by omega) (fun e => by omega)
  · refine br_t rfl ?_
    unfold wpY_num
    dsimp only
    refine yl_room F2 F10 F7 F9 (fun g => absurd g h) (fun _ => ?_)
    exact br_t rfl ⟨rfl, I⟩
theorem i_vc_ref {k : Nat} {u : SX} {v : SY} (I : i_Rel k u v) (hk : k + 4 ≤ 2050) (v1 : Int32) : wpX_ref (fun r u' => wpY_ref (fun r' v' => r' = r ∧ i_Rel (k + 4) u' v') v v1) u v1 := by
  obtain ⟨f_openCount, f_typeCount, f_printedCount, f_depthLimit, f_fuelLimit, f_lastStatus, f_lastValue, f_lastError, f_lastDatum, f_lastPlace, f_beatsUsed, f_frameCount, f_mode, f_currentNode, f_currentEnv, f_result, f_calls, f_inForce, f_exitTarget, f_exitValue, f_exitType, f_exitPlace, a_nodeOp, a_nodeA, a_nodeB, a_nodeParts, a_nodeSize, a_slotSize, a_slotParams, a_openLists, a_typeParent, a_elements, a_locals, a_specialValue, a_specialHas, a_printed, a_frames⟩ := u
  obtain ⟨h_depth, h_fuel, h_count, h_open, h_types, h_sp, h_ret, h_xTarget, h_xVal, h_xType, h_xPlace, h_have, h_exiting, h_running, h_outcome, h_value, h_error, h_datum, h_place, h_beats, h_printed, c_sort, c_op, c_na, c_nb, c_up, c_val, c_size, c_params, c_parent, c_global, c_cells, c_locals, c_has, c_node, c_got, c_handle, c_pTarget, c_pPlace, c_act, c_mode, c_bVar, c_pType, c_v0, c_v1, c_v2, c_last, c_bVal, c_pVal, c_out⟩ := v
  have I' := I
  obtain ⟨T, d, F, R1, R2, R3, R4, R5, R6, P, Z, O, A, C, ps, os, F1, F2, F3, F4, F5, F6, F7, F8, F9, F10, F11⟩ := I'
  have hq := fo_q_le F2.2.1
  have hc := F2.1
  unfold wpX_ref
  dsimp only
  refine xl_room F2 F10 F4 F5 F6 F8 (fun h => ?_) (fun h => ?_)
  · obtain ⟨h0, hc6⟩ := fo_rm_h0 h
    refine br_f (by decide) ?_
    by_cases a1 : v1 < 0
    · exact br_t a1 (br_t rfl (br_t a1 ⟨rfl, I⟩))
    · refine br_f a1 ?_
      by_cases a2 : (12 : Int32) ≤ v1
      · have a3 : (11 : Int32) < v1 := Int32.lt_of_lt_of_le (by decide) a2
        exact br_t a2 (br_t rfl (br_f a1 (br_t a3 ⟨rfl, I⟩)))
      · obtain ⟨j, hj, rfl⟩ := fb_lt 0 12 a1 a2 (by decide) (by decide)
        rw [Nat.zero_add] at *
        have a3 : ¬ (11 : Int32) < nI j := nI_nlt (b := j) (a := 11) (by omega) (by decide)
        refine br_f a2 (br_f (by decide) ?_)
        refine xl_add 28 (nI j) 0 hc6 F4 F5 (fun o ho => by have := (F2.2.1.2.2 o ho).1; omega) F6 F8 ?_
        refine br_f a1 (br_f a3 ?_)
        refine yl_room F2 F10 F7 F9 (fun _ => ?_) (fun g => absurd h g)
        refine br_f (by decide) ?_
        refine yl_add (w := 2) (nI j) (by decide) hc6 (by omega) F7 F9 ?_
        refine ⟨rfl, T, d, F, R1, R2, R3, R4, R5, R6, ?_⟩
        subst F6 F7
        exact rl_T_add (o := 28) (a := j) F1 F2 F3 F10 h0 hc6 (Or.inl rfl) (fun e => absurd (congrArg List.length e) (by simp)) (fun _ => by decide) F4 F5 (fun j hj => pk_un hj) (fun j hj => rfl) (fun j hj => rfl) (by decide) ⟨F11.1, fb_byte' (n := 2) (by decide)⟩ ⟨rl_Fb_upd F11.2.1 (by rw [vp_nar_byte]; decide), F11.2.2.1, F11.2.2.2.1, F11.2.2.2.2⟩ (fun e => by omega) (fun _ => ⟨rfl, rfl, rfl, by omega⟩) (fun e => by omega)
  · refine br_t rfl ?_
    by_cases a1 : v1 < 0
    · exact br_t a1 ⟨rfl, I⟩
    · refine br_f a1 ?_
      by_cases a3 : (11 : Int32) < v1
      · exact br_t a3 ⟨rfl, I⟩
      · refine br_f a3 ?_
        refine yl_room F2 F10 F7 F9 (fun g => absurd g h) (fun _ => ?_)
        exact br_t rfl ⟨rfl, I⟩
theorem i_vc_drop {k : Nat} {u : SX} {v : SY} (I : i_Rel k u v) (hk : k + 4 ≤ 2050) : wpX_drop (fun u' => wpY_drop (fun v' => i_Rel (k + 4) u' v') v) u := by
  obtain ⟨f_openCount, f_typeCount, f_printedCount, f_depthLimit, f_fuelLimit, f_lastStatus, f_lastValue, f_lastError, f_lastDatum, f_lastPlace, f_beatsUsed, f_frameCount, f_mode, f_currentNode, f_currentEnv, f_result, f_calls, f_inForce, f_exitTarget, f_exitValue, f_exitType, f_exitPlace, a_nodeOp, a_nodeA, a_nodeB, a_nodeParts, a_nodeSize, a_slotSize, a_slotParams, a_openLists, a_typeParent, a_elements, a_locals, a_specialValue, a_specialHas, a_printed, a_frames⟩ := u
  obtain ⟨h_depth, h_fuel, h_count, h_open, h_types, h_sp, h_ret, h_xTarget, h_xVal, h_xType, h_xPlace, h_have, h_exiting, h_running, h_outcome, h_value, h_error, h_datum, h_place, h_beats, h_printed, c_sort, c_op, c_na, c_nb, c_up, c_val, c_size, c_params, c_parent, c_global, c_cells, c_locals, c_has, c_node, c_got, c_handle, c_pTarget, c_pPlace, c_act, c_mode, c_bVar, c_pType, c_v0, c_v1, c_v2, c_last, c_bVal, c_pVal, c_out⟩ := v
  obtain ⟨T, d, F, R1, R2, R3, R4, R5, R6, P, Z, O, A, C, ps, os, F1, F2, F3, F4, F5, F6, F7, F8, F9, F10, F11⟩ := I
  refine nm_e ?_
  refine ⟨T, d, F, R1, R2, R3, R4, R5, R6, P, Z, O, A, fo_up C 6 0, ps, [], fun s hs => ?_, ?_, trivial, by decide, trivial, rfl, rfl, ?_, ?_, fun o h => (by cases h), F11⟩
  · rw [fo_un (by omega), pk_un (by omega)]; exact F1 s hs
  · rw [fo_us]
    refine ⟨by decide, ⟨fun i h => absurd h (Nat.not_lt_zero _), fun i h => absurd h (Nat.not_lt_zero _), fun i h => by cases h⟩, fun i h => absurd h (Nat.not_lt_zero _), fun i h => absurd h (Nat.not_lt_zero _)⟩
  · rw [pk_us, fo_us]; rfl
  · rw [fo_us]; rfl
theorem i_vc_close {k : Nat} {u : SX} {v : SY} (I : i_Rel k u v) (hk : k + 4 ≤ 2050) : wpX_close (fun r u' => wpY_close (fun r' v' => r' = r ∧ i_Rel (k + 4) u' v') v) u := by
  obtain ⟨f_openCount, f_typeCount, f_printedCount, f_depthLimit, f_fuelLimit, f_lastStatus, f_lastValue, f_lastError, f_lastDatum, f_lastPlace, f_beatsUsed, f_frameCount, f_mode, f_currentNode, f_currentEnv, f_result, f_calls, f_inForce, f_exitTarget, f_exitValue, f_exitType, f_exitPlace, a_nodeOp, a_nodeA, a_nodeB, a_nodeParts, a_nodeSize, a_slotSize, a_slotParams, a_openLists, a_typeParent, a_elements, a_locals, a_specialValue, a_specialHas, a_printed, a_frames⟩ := u
  obtain ⟨h_depth, h_fuel, h_count, h_open, h_types, h_sp, h_ret, h_xTarget, h_xVal, h_xType, h_xPlace, h_have, h_exiting, h_running, h_outcome, h_value, h_error, h_datum, h_place, h_beats, h_printed, c_sort, c_op, c_na, c_nb, c_up, c_val, c_size, c_params, c_parent, c_global, c_cells, c_locals, c_has, c_node, c_got, c_handle, c_pTarget, c_pPlace, c_act, c_mode, c_bVar, c_pType, c_v0, c_v1, c_v2, c_last, c_bVal, c_pVal, c_out⟩ := v
  have I' := I
  obtain ⟨T, d, F, R1, R2, R3, R4, R5, R6, P, Z, O, A, C, ps, os, F1, F2, F3, F4, F5, F6, F7, F8, F9, F10, F11⟩ := I'
  have F2' := F2
  obtain ⟨s1, s2, s3, s4⟩ := F2'
  subst F6 F7
  cases os with
  | nil => exact br_t rfl (br_t (by decide) ⟨rfl, I⟩)
  | cons o r =>
    obtain ⟨o1, _⟩ := s2.2.2 o (List.mem_cons_self ..)
    have hl : r.length + 1 ≤ 12 := F4
    have ho := F10 o (List.mem_cons_self ..)
    have hlen : (fo_kids P 336 (C 6) o).length ≤ C 6 := fo_kf_le _ _ _ _ _
    have hle : fo_least (O (336 + o)) ≤ 3 := by
      unfold fo_least
      repeat' split
      all_goals omega
    obtain ⟨n1, n2, n3, n4, _, _, n7, _⟩ := (s4 o o1).1
    have eo : nI (fo_q (o :: r)) - 1 = nI o := nI_pred o
    have el : nI (o :: r).length - 1 = nI r.length := nI_pred r.length
    have Yl : ∀ Q : Int32 → SY → Prop, (fo_least (O (336 + o)) ≤ (fo_kids P 336 (C 6) o).length → Q 1 (h_depth, h_fuel, h_count, nI (fo_q r) - 1, h_types, h_sp, h_ret, h_xTarget, h_xVal, h_xType, h_xPlace, h_have, h_exiting, h_running, h_outcome, h_value, h_error, h_datum, h_place, h_beats, h_printed, c_sort, c_op, c_na, c_nb, c_up, c_val, c_size, c_params, c_parent, c_global, c_cells, c_locals, c_has, c_node, c_got, c_handle, c_pTarget, c_pPlace, c_act, c_mode, c_bVar, c_pType, c_v0, c_v1, c_v2, c_last, c_bVal, c_pVal, c_out)) → ((fo_kids P 336 (C 6) o).length < fo_least (O (336 + o)) → Q 0 (h_depth, h_fuel, h_count, nI (fo_q (o :: r)) - 1, h_types, h_sp, h_ret, h_xTarget, h_xVal, h_xType, h_xPlace, h_have, h_exiting, h_running, h_outcome, h_value, h_error, h_datum, h_place, h_beats, h_printed, c_sort, c_op, c_na, c_nb, c_up, c_val, c_size, c_params, c_parent, c_global, c_cells, c_locals, c_has, c_node, c_got, c_handle, c_pTarget, c_pPlace, c_act, c_mode, c_bVar, c_pType, c_v0, c_v1, c_v2, c_last, c_bVal, c_pVal, c_out)) → wpY_close Q (h_depth, h_fuel, h_count, nI (fo_q (o :: r)) - 1, h_types, h_sp, h_ret, h_xTarget, h_xVal, h_xType, h_xPlace, h_have, h_exiting, h_running, h_outcome, h_value, h_error, h_datum, h_place, h_beats, h_printed, c_sort, c_op, c_na, c_nb, c_up, c_val, c_size, c_params, c_parent, c_global, c_cells, c_locals, c_has, c_node, c_got, c_handle, c_pTarget, c_pPlace, c_act, c_mode, c_bVar, c_pType, c_v0, c_v1, c_v2, c_last, c_bVal, c_pVal, c_out) := by
      intro Q q1 q2
      have hb : ¬ nI (fo_q (o :: r)) - 1 < 0 := by rw [eo]; exact nI_pos (by omega)
      refine br_f hb ?_
      rw [eo, fb_336]
      refine yl_parts (P := P) (b := 336) (i := o) (cnt := C 6) 6 rfl (by omega) s1 (by omega) (fun j hj => ⟨(s4 j hj).1.2.2.2.1, (s2.1 j hj).1⟩) (fun q hq => yl_lenF (by omega) F9 hq) ?_
      refine ⟨vp_in_nI (by omega) (by decide), ?_⟩
      rw [nI_clamp (by omega), (n7 ho).2.1]
      refine yl_least ho ?_
      refine pk_le (fo_least (O (336 + o))) (fo_kids P 336 (C 6) o).length (fun z => ?_) (fun z => ?_)
      · refine ⟨vp_in_nI (by omega) (by decide), nm_r (e' := nI (fo_q r) - 1) ?_ (q1 z)⟩
        rw [n4]
        congr 2
        cases r with
        | nil => exact F3.1
        | cons o' r' => exact F3.1.1
      · have := q2 z
        rw [eo] at this
        exact this
    refine br_f (nI_ne0 (Nat.succ_pos _) (by simp only [List.length_cons]; omega)) ?_
    rw [el]
    refine ⟨vp_in_nI (by omega) (by decide), ?_⟩
    rw [nI_clamp (by omega), F5.1]
    refine nm_e ?_
    rw [nI_clamp (by omega)]
    refine ⟨vp_in_nI (by omega) (by decide), ?_⟩
    rw [n1]
    refine xl_least ho ?_
    refine ⟨vp_in_nI (by omega) (by decide), ?_⟩
    rw [n3]
    refine pk_le (fo_least (O (336 + o))) (fo_kids P 336 (C 6) o).length (fun z => ?_) (fun z => ?_)
    · refine ⟨vp_in_nI (by omega) (by decide), nm_e (nm_e ?_)⟩
      refine Yl _ (fun _ => ?_) (fun g => by omega)
      refine ⟨rfl, T, d, F, R1, R2, R3, R4, R5, R6, ?_⟩
      have ez : ((336 : Int32) + a_slotSize 6) - nI (336 + o) = nI (C 6 - o) := by
        rw [F8, fb_336, pk_sub (by omega)]
        exact congrArg nI (by omega)
      obtain ⟨G1, G2⟩ := fo_close s2 F3
      refine ⟨P, fo_up Z (336 + o) (C 6 - o), O, A, C, ps, r, fun s hs => ?_, ⟨s1, G1, fun i hi hno => ?_, fun i hi => ⟨(s4 i hi).1, fun hno hO => ?_⟩⟩, G2, by omega, F5.2, rfl, rfl, F8, F9, fun q hq => F10 q (List.mem_cons_of_mem _ hq), F11⟩
      · obtain ⟨H1, H2⟩ := F1 s hs
        have hcs := H1.1
        exact ⟨fo_Slot_keep H1 (fun i hi => ⟨rfl, rfl, rfl, rfl, pk_un (by omega), rfl, rfl, rfl, rfl, rfl, rfl⟩) (fun j hj => ⟨rfl, fo_un (by omega), rfl, rfl⟩), H2⟩
      · by_cases e : i = o
        · rw [e, pk_us, fo_us, ez]
        · rw [pk_un (by omega), fo_un (by omega)]
          refine s3 i hi (fun z => ?_)
          rcases List.mem_cons.mp z with g | g
          · exact e g
          · exact hno g
      · by_cases e : i = o
        · rw [e]; exact z
        · refine (s4 i hi).2 (fun w => ?_) hO
          rcases List.mem_cons.mp w with g | g
          · exact e g
          · exact hno g
    · exact Yl _ (fun g => by omega) (fun _ => ⟨rfl, I⟩)
