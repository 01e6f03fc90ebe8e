/-! open: the whole -/
theorem fo_upQ {os : List Nat} (h : ∀ o, o ∈ os → o < 56) : fo_q os ≤ 56 := by
  cases os with
  | nil => exact Nat.zero_le _
  | cons o r => have := h o (List.mem_cons_self ..); exact this
theorem fo_fit_a {T o : Nat} {O A : Nat → Nat} {os : List Nat} {p1 p2 : Int32} (ho : o ≤ 26) (hT : T ≤ 15) : fo_fit T O A os o p1 p2 → ∃ a, a < 16 ∧ fo_ar T o a ∧ (fo_ma o → p1 = nI a) ∧ (16 ≤ o → o ≤ 18 → fo_RG 0 12 p2) ∧ (o = 12 → ∃ t, fo_fd O A a os = some t) := by
  intro h
  have no : ∀ {p : Prop}, (¬ p) → p → False := fun a b => a b
  unfold fo_fit at h
  by_cases c1 : o = 8
  · rw [if_pos c1] at h
    obtain ⟨a, g1, g2, g3⟩ := h
    exact ⟨a, by omega, ⟨fun _ => g2, fun e => by omega, fun e => by omega, fun e => by omega, fun e => by omega, fun e => by omega⟩, fun _ => g3, fun e _ => by omega, fun e => by omega⟩
  rw [if_neg c1] at h
  by_cases c2 : o = 9 ∨ o = 26
  · rw [if_pos c2] at h
    obtain ⟨a, g1, g2, g3⟩ := h
    exact ⟨a, by omega, ⟨fun e => by omega, fun _ => ⟨g1, g2⟩, fun e => by omega, fun e => by omega, fun e => by omega, fun e => by omega⟩, fun _ => g3, fun e _ => by omega, fun e => by omega⟩
  rw [if_neg c2] at h
  by_cases c3 : o = 11 ∨ o = 19
  · rw [if_pos c3] at h
    obtain ⟨a, g1, g2, g3⟩ := h
    exact ⟨a, by omega, ⟨fun e => by omega, fun e => by omega, fun _ => g2, fun e => by omega, fun e => by omega, fun e => by omega⟩, fun _ => g3, fun e _ => by omega, fun e => by omega⟩
  rw [if_neg c3] at h
  by_cases c4 : o = 12
  · rw [if_pos c4] at h
    obtain ⟨a, t, g2, g3, g4⟩ := h
    exact ⟨a, by omega, ⟨fun e => by omega, fun e => by omega, fun _ => g2, fun e => by omega, fun e => by omega, fun e => by omega⟩, fun _ => g3, fun e _ => by omega, fun _ => ⟨t, g4⟩⟩
  rw [if_neg c4] at h
  by_cases c5 : o = 16 ∨ o = 17
  · rw [if_pos c5] at h
    obtain ⟨⟨a, g1, g2, g3⟩, g4⟩ := h
    exact ⟨a, by omega, ⟨fun e => by omega, fun e => by omega, fun e => by omega, fun _ => ⟨g1, by omega⟩, fun e => by omega, fun e => by omega⟩, fun _ => g3, fun _ _ => g4, fun e => by omega⟩
  rw [if_neg c5] at h
  by_cases c6 : o = 18
  · rw [if_pos c6] at h
    obtain ⟨⟨a, g1, g2, g3⟩, g4⟩ := h
    exact ⟨a, by omega, ⟨fun e => by omega, fun e => by omega, fun _ => g2, fun e => by omega, fun e => by omega, fun e => by omega⟩, fun _ => g3, fun _ _ => g4, fun e => by omega⟩
  rw [if_neg c6] at h
  by_cases c7 : o = 20 ∨ o = 21
  · rw [if_pos c7] at h
    obtain ⟨a, g1, g2, g3⟩ := h
    exact ⟨a, by omega, ⟨fun e => by omega, fun e => by omega, fun e => by omega, fun _ => ⟨g1, by omega⟩, fun e => by omega, fun e => by omega⟩, fun _ => g3, fun e _ => by omega, fun e => by omega⟩
  rw [if_neg c7] at h
  by_cases c8 : o = 23
  · rw [if_pos c8] at h
    obtain ⟨a, g1, g2, g3⟩ := h
    exact ⟨a, by omega, ⟨fun e => by omega, fun e => by omega, fun e => by omega, fun e => by omega, fun _ => g2, fun e => by omega⟩, fun _ => g3, fun e _ => by omega, fun e => by omega⟩
  rw [if_neg c8] at h
  by_cases c9 : o = 24 ∨ o = 25
  · rw [if_pos c9] at h
    obtain ⟨a, g1, g2, g3⟩ := h
    exact ⟨a, by omega, ⟨fun e => by omega, fun e => by omega, fun e => by omega, fun e => by omega, fun e => by omega, fun _ => g2⟩, fun _ => g3, fun e _ => by omega, fun e => by omega⟩
  · refine ⟨0, by omega, ⟨fun e => by omega, fun e => by omega, fun e => by omega, fun e => by omega, fun e => by omega, fun e => by omega⟩, fun e => ?_, fun e _ => by omega, fun e => by omega⟩
    unfold fo_ma at e
    omega
theorem i_vc_open {k : Nat} {u : SX} {v : SY} (I : i_Rel k u v) (hk : k + 4 ≤ 2050) (v1 : Int32) (v2 : Int32) (v3 : Int32) : wpX_open (fun r u' => wpY_open (fun r' v' => r' = r ∧ i_Rel (k + 4) u' v') v v1 v2 v3) u v1 v2 v3 := by
  obtain ⟨f_openCount, f_typeCount, f_printedCount, f_depthLimit, f_fuelLimit, f_lastStatus, f_lastValue, f_lastError, f_lastDatum, f_lastPlace, f_beatsUsed, f_frameCount, f_mode, f_currentNode, f_currentEnv, f_result, f_calls, f_inForce, f_exitTarget, f_exitValue, f_exitType, f_exitPlace, a_nodeOp, a_nodeA, a_nodeB, a_nodeParts, a_nodeSize, a_slotSize, a_slotParams, a_openLists, a_typeParent, a_elements, a_locals, a_specialValue, a_specialHas, a_printed, a_frames⟩ := u
  obtain ⟨h_depth, h_fuel, h_count, h_open, h_types, h_sp, h_ret, h_xTarget, h_xVal, h_xType, h_xPlace, h_have, h_exiting, h_running, h_outcome, h_value, h_error, h_datum, h_place, h_beats, h_printed, c_sort, c_op, c_na, c_nb, c_up, c_val, c_size, c_params, c_parent, c_global, c_cells, c_locals, c_has, c_node, c_got, c_handle, c_pTarget, c_pPlace, c_act, c_mode, c_bVar, c_pType, c_v0, c_v1, c_v2, c_last, c_bVal, c_pVal, c_out⟩ := v
  have I' := I
  obtain ⟨T, d, F, R1, R2, R3, R4, R5, R6, P, Z, O, A, C, ps, os, F1, F2, F3, F4, F5, F6, F7, F8, F9, F10, F11⟩ := I'
  obtain ⟨T1, T2, ⟨T3, T4, T5⟩, T6⟩ := R1
  have F2' := F2
  obtain ⟨s1, s2, s3, s4⟩ := F2'
  have hlt : ∀ o, o ∈ os → o < 56 := fun o ho => by have := (s2.2.2 o ho).1; omega
  have hlc : ∀ o, o ∈ os → o < C 6 := fun o ho => (s2.2.2 o ho).1
  have hq := fo_q_le s2
  obtain ⟨lab, l1, l2⟩ := fo_lab v2
  have hN11 : ∀ i, i < C 6 → O (336 + i) = 11 → (a_nodeA (336 + i) = v2 ↔ A (336 + i) = lab) ∧ (c_na (336 + i) = v2 ↔ A (336 + i) = lab) := by
    intro i hi e
    obtain ⟨_, _, _, _, _, _, n7, _⟩ := (s4 i hi).1
    obtain ⟨_, _, m3, m4, _⟩ := n7 (by omega)
    have a8 := m3.2.2.1 (by omega)
    obtain ⟨e1, e2⟩ := m4 (by unfold fo_ma; omega)
    rw [e1, e2]
    exact ⟨l1 _ a8, l1 _ a8⟩
  -- the two searches for a BLOCK
  have bX : ∀ post : Int32 → Prop, (∀ t, fo_fd O A lab os = some t → post (nI (336 + t))) → (fo_fd O A lab os = none → post (-1)) → wpX_blockAround post (f_openCount, f_typeCount, f_printedCount, f_depthLimit, f_fuelLimit, f_lastStatus, f_lastValue, f_lastError, f_lastDatum, f_lastPlace, f_beatsUsed, f_frameCount, f_mode, f_currentNode, f_currentEnv, f_result, f_calls, f_inForce, f_exitTarget, f_exitValue, f_exitType, f_exitPlace, a_nodeOp, a_nodeA, a_nodeB, a_nodeParts, a_nodeSize, a_slotSize, a_slotParams, a_openLists, a_typeParent, a_elements, a_locals, a_specialValue, a_specialHas, a_printed, a_frames) v2 := by
    intro post h1 h0
    refine nm_r (e' := nI os.length - 1) (by rw [F6]) ⟨os.length + 1, ?_⟩
    exact xl_ba7 (O := O) (A := A) (lab := lab) os (os.length + 1) (by omega) F4 F5 (fun o ho => ⟨hlt o ho, (s4 o (hlc o ho)).1.1, (s4 o (hlc o ho)).1.2.1, fun e => (hN11 o (hlc o ho) e).1⟩) h1 h0
  have hfd : fo_ba P O A 336 lab 14 (fo_q os) = fo_fd O A lab os := fo_fd_ba 14 os (by omega) F3
  have bY : ∀ post : Int32 → Prop, (∀ t, fo_fd O A lab os = some t → post (nI (336 + t))) → (fo_fd O A lab os = none → post (-1)) → wpY_blockAround post (h_depth, h_fuel, h_count, h_open, h_types, h_sp, h_ret, h_xTarget, h_xVal, h_xType, h_xPlace, h_have, h_exiting, h_running, h_outcome, h_value, h_error, h_datum, h_place, h_beats, h_printed, c_sort, c_op, c_na, c_nb, c_up, c_val, c_size, c_params, c_parent, c_global, c_cells, c_locals, c_has, c_node, c_got, c_handle, c_pTarget, c_pPlace, c_act, c_mode, c_bVar, c_pType, c_v0, c_v1, c_v2, c_last, c_bVal, c_pVal, c_out) (if fo_q os = 0 then -1 else nI (336 + (fo_q os - 1))) v2 := by
    intro post h1 h0
    have hOp : ∀ i, i < C 6 → ∀ j, j + 1 = P (336 + i) → O (336 + j) ≤ 26 := by
      intro i hi j hj
      exact (s4 i hi).1.2.2.2.2.2.2.2 j hj
    refine ⟨15, ?_⟩
    exact yl_ba5 (P := P) (O := O) (A := A) (lab := lab) (b := 336) (s := 6) rfl (by decide) 14 (fo_q os) 0 15 (by omega) (by omega) (by omega) (fun i hi => ⟨(s4 i (by omega)).1.2.2.2.1, (s2.1 i (by omega)).1, fun e => ⟨((s4 i (by omega)).1.2.2.2.2.2.2.1 e).2.1, fun e2 => (hN11 i (by omega) e2).2⟩⟩) (fun i hi => by
      cases os with
      | nil => cases hi
      | cons o r =>
        have : i = o := Nat.succ.inj hi
        rw [this]; exact F10 o (List.mem_cons_self ..)) (fun i hi => hOp i (by omega)) (by rw [hfd]; exact h1) (by rw [hfd]; exact h0)
  have eop : ∀ post : Int32 → Prop, (∀ z : Int32, z = (if fo_q os = 0 then -1 else nI (336 + (fo_q os - 1))) → wY_operandsFit_93 post 12 v2 z h_depth h_fuel h_count h_open h_types h_sp h_ret h_xTarget h_xVal h_xType h_xPlace h_have h_exiting h_running h_outcome h_value h_error h_datum h_place h_beats h_printed c_sort c_op c_na c_nb c_up c_val c_size c_params c_parent c_global c_cells c_locals c_has c_node c_got c_handle c_pTarget c_pPlace c_act c_mode c_bVar c_pType c_v0 c_v1 c_v2 c_last c_bVal c_pVal c_out) → ((0 ≤ h_open → (wY_operandsFit_93 post 12 v2 (336 + h_open) h_depth h_fuel h_count h_open h_types h_sp h_ret h_xTarget h_xVal h_xType h_xPlace h_have h_exiting h_running h_outcome h_value h_error h_datum h_place h_beats h_printed c_sort c_op c_na c_nb c_up c_val c_size c_params c_parent c_global c_cells c_locals c_has c_node c_got c_handle c_pTarget c_pPlace c_act c_mode c_bVar c_pType c_v0 c_v1 c_v2 c_last c_bVal c_pVal c_out)) ∧ (¬ 0 ≤ h_open → (wY_operandsFit_93 post 12 v2 (-1) h_depth h_fuel h_count h_open h_types h_sp h_ret h_xTarget h_xVal h_xType h_xPlace h_have h_exiting h_running h_outcome h_value h_error h_datum h_place h_beats h_printed c_sort c_op c_na c_nb c_up c_val c_size c_params c_parent c_global c_cells c_locals c_has c_node c_got c_handle c_pTarget c_pPlace c_act c_mode c_bVar c_pType c_v0 c_v1 c_v2 c_last c_bVal c_pVal c_out))) := by
    intro post h
    have e1 : 0 ≤ h_open ↔ 0 < fo_q os := by rw [F7]; exact (fb_upn (by omega)).2
    refine fb_if e1 (fun z => h _ ?_) (fun z => h _ ?_)
    · have e2 : nI (fo_q os) - 1 = nI (fo_q os - 1) := pk_sub (b := 1) (by omega)
      rw [if_neg (by omega), F7, e2, fb_336]
    · rw [if_pos (by omega)]
  have exA : (∃ a t, a < 8 ∧ v2 = nI a ∧ fo_fd O A a os = some t) ↔ ∃ t, fo_fd O A lab os = some t := by
    constructor
    · rintro ⟨a, t, a1, a2, a3⟩
      have := (l1 a a1).mp a2.symm
      exact ⟨t, by rw [← this]; exact a3⟩
    · rintro ⟨t, ht⟩
      obtain ⟨m1, m2, m3⟩ := fo_fd_mem ht
      obtain ⟨_, _, _, _, _, _, n7, _⟩ := (s4 t (hlc t m1)).1
      obtain ⟨_, _, k3, _⟩ := n7 (by omega)
      have a8 := k3.2.2.1 (by omega)
      rw [m3] at a8
      exact ⟨lab, t, a8, l2 a8, ht⟩
  have fX : ∀ (post : Int32 → Prop) (o : Nat), o ≤ 26 → (fo_fit T O A os o v2 v3 → post 1) → (¬ fo_fit T O A os o v2 v3 → post 0) → wpX_operandsFit post (f_openCount, f_typeCount, f_printedCount, f_depthLimit, f_fuelLimit, f_lastStatus, f_lastValue, f_lastError, f_lastDatum, f_lastPlace, f_beatsUsed, f_frameCount, f_mode, f_currentNode, f_currentEnv, f_result, f_calls, f_inForce, f_exitTarget, f_exitValue, f_exitType, f_exitPlace, a_nodeOp, a_nodeA, a_nodeB, a_nodeParts, a_nodeSize, a_slotSize, a_slotParams, a_openLists, a_typeParent, a_elements, a_locals, a_specialValue, a_specialHas, a_printed, a_frames) (nI o) v2 v3 := by
    intro post o ho
    refine xl_fit ho T1 T4 (fun h1 h0 => ?_)
    refine bX _ (fun t ht => ?_) (fun hn => ?_)
    · have := hlt t (fo_fd_mem ht).1
      have e : ¬ nI (336 + t) = -1 := fun z => absurd (z ▸ nI_pos (n := 336 + t) (by omega)) (by decide)
      exact br_f e (h1 (exA.mpr ⟨t, ht⟩))
    · exact br_t rfl (h0 (fun z => by obtain ⟨t, ht⟩ := exA.mp z; rw [hn] at ht; cases ht))
  have fY : ∀ (post : Int32 → Prop) (o : Nat), o ≤ 26 → (fo_fit T O A os o v2 v3 → post 1) → (¬ fo_fit T O A os o v2 v3 → post 0) → wpY_operandsFit post (h_depth, h_fuel, h_count, h_open, h_types, h_sp, h_ret, h_xTarget, h_xVal, h_xType, h_xPlace, h_have, h_exiting, h_running, h_outcome, h_value, h_error, h_datum, h_place, h_beats, h_printed, c_sort, c_op, c_na, c_nb, c_up, c_val, c_size, c_params, c_parent, c_global, c_cells, c_locals, c_has, c_node, c_got, c_handle, c_pTarget, c_pPlace, c_act, c_mode, c_bVar, c_pType, c_v0, c_v1, c_v2, c_last, c_bVal, c_pVal, c_out) (nI o) v2 v3 := by
    intro post o ho
    refine yl_fit ho T2 T4 (fun h1 h0 => eop post (fun z ez => ?_))
    subst ez
    refine bY _ (fun t ht => ?_) (fun hn => ?_)
    · have := hlt t (fo_fd_mem ht).1
      refine br_t (nI_pos' (by omega)) ?_
      have h := exA.mpr ⟨t, ht⟩
      have h' := h
      obtain ⟨a, t', a1, a2, a3⟩ := h'
      refine br_f (by decide) (br_t rfl ?_)
      have k1 : ¬ v2 < 0 := by rw [a2]; exact nI_pos (by omega)
      have k2 : ¬ (7 : Int32) < v2 := by rw [a2]; exact nI_nlt (b := a) (a := 7) (by omega) (by decide)
      exact br_f k1 (br_f k2 (h1 h))
    · exact br_f (by decide) (h0 (fun z => by obtain ⟨t, ht⟩ := exA.mp z; rw [hn] at ht; cases ht))
  have rY0 : ∀ Q : Int32 → SY → Prop, ¬ (∃ o, o ≤ 26 ∧ v1 = nI o ∧ fo_rm P O (C 6) os ∧ os.length < 12 ∧ fo_fit T O A os o v2 v3) → Q 0 (h_depth, h_fuel, h_count, h_open, h_types, h_sp, h_ret, h_xTarget, h_xVal, h_xType, h_xPlace, h_have, h_exiting, h_running, h_outcome, h_value, h_error, h_datum, h_place, h_beats, h_printed, c_sort, c_op, c_na, c_nb, c_up, c_val, c_size, c_params, c_parent, c_global, c_cells, c_locals, c_has, c_node, c_got, c_handle, c_pTarget, c_pPlace, c_act, c_mode, c_bVar, c_pType, c_v0, c_v1, c_v2, c_last, c_bVal, c_pVal, c_out) → wpY_open Q (h_depth, h_fuel, h_count, h_open, h_types, h_sp, h_ret, h_xTarget, h_xVal, h_xType, h_xPlace, h_have, h_exiting, h_running, h_outcome, h_value, h_error, h_datum, h_place, h_beats, h_printed, c_sort, c_op, c_na, c_nb, c_up, c_val, c_size, c_params, c_parent, c_global, c_cells, c_locals, c_has, c_node, c_got, c_handle, c_pTarget, c_pPlace, c_act, c_mode, c_bVar, c_pType, c_v0, c_v1, c_v2, c_last, c_bVal, c_pVal, c_out) v1 v2 v3 := by
    intro Q hno hQ
    by_cases a1 : v1 < 0
    · exact br_t a1 hQ
    · refine br_f a1 ?_
      by_cases a2 : (26 : Int32) < v1
      · exact br_t a2 hQ
      · refine br_f a2 ?_
        obtain ⟨o, ho, rfl⟩ := nI_of2 (M := 26) (n := 26) (by decide) a1 (Int32.not_lt.mp a2)
        refine yl_room F2 F10 F7 F9 (fun g => br_f (by decide) ?_) (fun g => br_t rfl hQ)
        refine fY _ o ho (fun g2 => br_f (by decide) ⟨12, ?_⟩) (fun g2 => br_t rfl hQ)
        have hd : 12 ≤ os.length := Nat.le_of_not_lt (fun z => hno ⟨o, ho, rfl, g, z, g2⟩)
        subst F7
        refine yl_dep (P := P) 11 0 12 os (by omega) (by omega) F3 (fun q hq => ⟨hlt q hq, (s4 q (hlc q hq)).1.2.2.2.1⟩) ?_
        refine br_f ?_ hQ
        have hdr : ∃ o' r', os.drop 11 = o' :: r' := by
          cases hh : os.drop 11 with
          | nil => have := List.drop_eq_nil_iff.mp hh; omega
          | cons o' r' => exact ⟨o', r', rfl⟩
        obtain ⟨o', r', e⟩ := hdr
        have ho' := hlt o' (List.mem_of_mem_drop (by rw [e]; exact List.mem_cons_self ..))
        rw [e]
        show ¬ nI (o' + 1) - 1 < 0
        rw [nI_pred]
        exact nI_pos (by omega)
  unfold wpX_open
  dsimp only
  refine xl_room F2 F10 F4 F5 F6 F8 (fun g => br_f (by decide) ?_) (fun g => br_t rfl (rY0 _ (fun ⟨o, _, _, z, _⟩ => g z) ⟨rfl, I⟩))
  have eoc : (12 : Int32) ≤ f_openCount ↔ 12 ≤ os.length := by rw [F6]; exact nI_leI (a := 12) (by decide) (by omega)
  refine fb_if eoc (fun z => rY0 _ (fun ⟨o, _, _, _, w, _⟩ => by omega) ⟨rfl, I⟩) (fun z => ?_)
  by_cases a1 : fo_RG 0 27 v1
  · obtain ⟨o, _, ho, rfl⟩ := a1
    refine fX _ o (by omega) (fun g2 => br_f (by decide) ?_) (fun g2 => br_t rfl (rY0 _ (fun ⟨o', ho', e', _, _, w⟩ => g2 (by have := (nI_eq (by omega) (by omega)).mp e'; rw [this]; exact w)) ⟨rfl, I⟩))
    obtain ⟨h0, hc6⟩ := fo_rm_h0 g
    obtain ⟨a, b1, b2, b3, b4, b5⟩ := fo_fit_a (by omega) T4 g2
    refine nm_r (e' := nI (336 + C 6)) (by rw [F8]; exact fb_336 _) ?_
    -- what the class does at last
    have fin : ∀ wb : Int32, (o = 12 → ∃ t, t ≤ C 6 ∧ wb = nI (C 6 - t) ∧ fo_ba P O A 336 a 13 (fo_q os) = some t) → (o ≠ 12 → wb = v3) → wX_open_64 (fun r u' => wpY_open (fun r' v' => r' = r ∧ i_Rel (k + 4) u' v') (h_depth, h_fuel, h_count, h_open, h_types, h_sp, h_ret, h_xTarget, h_xVal, h_xType, h_xPlace, h_have, h_exiting, h_running, h_outcome, h_value, h_error, h_datum, h_place, h_beats, h_printed, c_sort, c_op, c_na, c_nb, c_up, c_val, c_size, c_params, c_parent, c_global, c_cells, c_locals, c_has, c_node, c_got, c_handle, c_pTarget, c_pPlace, c_act, c_mode, c_bVar, c_pType, c_v0, c_v1, c_v2, c_last, c_bVal, c_pVal, c_out) (nI o) v2 v3) (nI o) v2 (nI (336 + C 6)) wb f_openCount f_typeCount f_printedCount f_depthLimit f_fuelLimit f_lastStatus f_lastValue f_lastError f_lastDatum f_lastPlace f_beatsUsed f_frameCount f_mode f_currentNode f_currentEnv f_result f_calls f_inForce f_exitTarget f_exitValue f_exitType f_exitPlace a_nodeOp a_nodeA a_nodeB a_nodeParts a_nodeSize a_slotSize a_slotParams a_openLists a_typeParent a_elements a_locals a_specialValue a_specialHas a_printed a_frames := by
      intro wb w1 w2
      unfold wX_open_64
      refine xl_add (nI o) v2 wb hc6 F4 F5 hlt F6 F8 ?_
      have i12 : vp_in f_openCount 12 := by rw [F6]; exact vp_in_nI (by omega) (by decide)
      refine ⟨i12, nm_e (nm_r (e' := nI (os.length + 1)) (by rw [F6]; exact nI_1 _) ?_)⟩
      rw [F6, nI_clamp (by omega)]
      refine br_f (nI_pos (by omega)) (br_f (nI_nlt (b := o) (a := 26) (by omega) (by decide)) ?_)
      refine yl_room F2 F10 F7 F9 (fun _ => br_f (by decide) ?_) (fun z => absurd g z)
      refine fY _ o (by omega) (fun _ => br_f (by decide) ⟨12, ?_⟩) (fun z => absurd g2 z)
      subst F7 F9
      refine yl_dep (P := P) 11 0 12 os (by omega) (by omega) F3 (fun q hq => ⟨hlt q hq, (s4 q (hlc q hq)).1.2.2.2.1⟩) ?_
      have hdr : os.drop 11 = [] := List.drop_eq_nil_iff.mpr (by omega)
      rw [hdr]
      refine br_t (by decide) ?_
      refine yl_add (w := 0) 0 (by decide) hc6 (by omega) rfl rfl ?_
      have i336 : vp_in (336 + nI (C 6)) 392 := by rw [fb_336]; exact vp_in_nI (by omega) (by decide)
      refine nm_r (nI_pred (C 6)) ⟨i336, nm_e ⟨i336, nm_e ⟨i336, nm_e ?_⟩⟩⟩
      rw [fb_336, nI_clamp (by omega)]
      refine ⟨rfl, T, d, F, ⟨T1, T2, ⟨T3, T4, T5⟩, T6⟩, R2, R3, R4, R5, R6, ?_⟩
      obtain ⟨f1, f2, f3, f4, f5⟩ := F11
      have eo : vp_nar .byte (nI o).toInt8.toInt32 = nI o := fb_byte (by omega)
      have ea : fo_ma o → vp_nar .byte v2.toInt8.toInt32 = nI a := fun z => by rw [b3 z]; exact fb_byte (by omega)
      have fin2 := rl_T_add (xl' := upd a_openLists os.length (nI (336 + C 6))) (os' := C 6 :: os) (o := o) (a := a) (wa := v2) (wb := wb) (wt := nI 0) (wv := 0) (yo' := upd (upd c_op (336 + C 6) (-1)) (336 + C 6) (vp_nar .byte (nI o).toInt8.toInt32)) (ya' := upd c_na (336 + C 6) (vp_nar .byte v2.toInt8.toInt32)) (yb' := upd c_nb (336 + C 6) (vp_nar .byte v3.toInt8.toInt32)) F1 F2 F3 F10 h0 hc6 (Or.inr rfl) (fun _ => by omega) (fun e => absurd (congrArg List.length e) (by simp)) (by simp only [List.length_cons]; omega) ⟨pk_us, fo_OL_upd (Nat.le_refl _) F5⟩ (fun j hj => by rw [pk_un hj, pk_un hj]) (fun j hj => pk_un hj) (fun j hj => pk_un hj) (by omega) ⟨f1, fb_byte' (n := 0) (by decide)⟩ ⟨rl_Fb_upd (rl_Fb_upd f2 (by rw [vp_nar_byte]; decide)) (by rw [eo]; exact fb_byte' (by omega)), rl_Fb_upd f3 (by rw [pk_vb, pk_vb]), rl_Fb_upd f4 (by rw [pk_vb, pk_vb]), f5⟩ (fun e => by omega) (fun e => by omega) (fun _ => ⟨rfl, by rw [pk_us, eo], b2, fun z => ⟨b3 z, by rw [pk_us, ea z]⟩, fun z1 z2 => by
        obtain ⟨w, _, w3, w4⟩ := b4 z1 z2
        refine ⟨w, w3, ?_, ?_⟩
        · rw [w2 (by omega)]; exact w4
        · rw [pk_us, w4]; exact fb_byte (by omega), w1⟩)
      have eq : nI (fo_q (C 6 :: os)) - 1 = nI (C 6) := nI_pred _
      rw [eq] at fin2
      exact fin2
    refine pk_eq o 12 (fun e => ?_) (fun e => fin v3 (fun w => absurd w e) (fun _ => rfl))
    obtain ⟨t0, ht0⟩ := b5 e
    have hv : v2 = nI a := b3 (by unfold fo_ma; omega)
    have hla : a = lab := (l1 a (b2.2.2.1 (by omega))).mp hv.symm
    subst hla
    refine bX _ (fun t ht => ?_) (fun hn => by rw [hn] at ht0; cases ht0)
    have htc := hlc t (fo_fd_mem ht).1
    refine nm_r (e' := nI (C 6 - t)) ?_ (fin _ (fun _ => ⟨t, by omega, rfl, ?_⟩) (fun z => absurd e z))
    · rw [pk_sub (by omega)]
      exact congrArg nI (by omega)
    · rw [fo_fd_ba 13 os (by omega) F3]; exact ht
  · -- no list of that number
    have hbad : v1 < 0 ∨ 26 < v1 := by
      rcases Classical.em (v1 < 0) with h | h
      · exact Or.inl h
      · rcases Classical.em ((26 : Int32) < v1) with h2 | h2
        · exact Or.inr h2
        · obtain ⟨o, ho, rfl⟩ := nI_of2 (M := 26) (n := 26) (by decide) h (Int32.not_lt.mp h2)
          exact absurd ⟨o, Nat.zero_le _, by omega, rfl⟩ a1
    have last := rY0 (fun r' v' => r' = 0 ∧ i_Rel (k + 4) (f_openCount, f_typeCount, f_printedCount, f_depthLimit, f_fuelLimit, f_lastStatus, f_lastValue, f_lastError, f_lastDatum, f_lastPlace, f_beatsUsed, f_frameCount, f_mode, f_currentNode, f_currentEnv, f_result, f_calls, f_inForce, f_exitTarget, f_exitValue, f_exitType, f_exitPlace, a_nodeOp, a_nodeA, a_nodeB, a_nodeParts, a_nodeSize, a_slotSize, a_slotParams, a_openLists, a_typeParent, a_elements, a_locals, a_specialValue, a_specialHas, a_printed, a_frames) v') (fun ⟨o, ho, e, _⟩ => a1 ⟨o, Nat.zero_le _, by omega, e⟩) ⟨rfl, I⟩
    rcases hbad with h | h
    · have h8 : v1 < 8 := Int32.lt_trans h (by decide)
      exact br_t h8 (br_t h (br_t rfl last))
    · have h8 : ¬ v1 < 8 := fun z => absurd (Int32.lt_trans h z) (by decide)
      have h00 : ¬ v1 < 0 := fun z => absurd (Int32.lt_trans h z) (by decide)
      exact br_f h8 (br_t h (br_f h00 (br_t h (br_t rfl last))))
