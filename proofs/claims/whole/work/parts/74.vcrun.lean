/-! run -/
theorem i_vc_run {k : Nat} {u : SX} {v : SY} (I : i_Rel k u v) (hk : k + 4 ≤ 2050) : wpX_run (fun r u' => wpY_run (fun r' v' => r' = r ∧ i_Rel (k + 4) u' v') v) u := by
  obtain ⟨f_openCount, f_typeCount, f_printedCount, f_depthLimit, f_fuelLimit, f_lastStatus, f_lastValue, f_lastError, f_lastDatum, f_lastPlace, f_beatsUsed, f_frameCount, f_mode, f_currentNode, f_currentEnv, f_result, f_calls, f_inForce, f_exitTarget, f_exitValue, f_exitType, f_exitPlace, a_nodeOp, a_nodeA, a_nodeB, a_nodeParts, a_nodeSize, a_slotSize, a_slotParams, a_openLists, a_typeParent, a_elements, a_locals, a_specialValue, a_specialHas, a_printed, a_frames⟩ := u
  obtain ⟨h_depth, h_fuel, h_count, h_open, h_types, h_sp, h_ret, h_xTarget, h_xVal, h_xType, h_xPlace, h_have, h_exiting, h_running, h_outcome, h_value, h_error, h_datum, h_place, h_beats, h_printed, c_sort, c_op, c_na, c_nb, c_up, c_val, c_size, c_params, c_parent, c_global, c_cells, c_locals, c_has, c_node, c_got, c_handle, c_pTarget, c_pPlace, c_act, c_mode, c_bVar, c_pType, c_v0, c_v1, c_v2, c_last, c_bVal, c_pVal, c_out⟩ := v
  have I' := I
  obtain ⟨T, d, F, R1, ⟨d1, d2, d3⟩, ⟨g1, g2, g3⟩, R4, ⟨r1, r2, r3, r4, r5⟩, R6, RT⟩ := I'
  have RT' := RT
  obtain ⟨P, Z, O, A, C, ps, os, F1, F2, F3, F4, F5, F6, F7, F8, F9, F10, F11⟩ := RT'
  obtain ⟨t1, t2, ⟨t3, t4, pt, t5⟩, t6⟩ := R1
  have hC56 := F2.1
  unfold wpX_run
  dsimp only
  cases os with
  | cons o r =>
    have ho := (F2.2.1.2.2 o (List.mem_cons_self ..)).1
    refine br_f ?_ (br_t rfl ?_)
    · rw [F6]
      exact xx_ne (a := r.length + 1) (b := 0) (by omega) (by have : r.length + 1 ≤ 12 := F4; omega) (by decide)
    · refine br_f ?_ (br_f ?_ ⟨rfl, I⟩)
      · rw [F9]
        exact xx_ne (b := 0) (by omega) (by omega) (by decide)
      · rw [F7]
        show ¬ nI (o + 1) - 1 < 0
        rw [nI_pred]
        exact nI_pos (by omega)
  | nil =>
    have f6 : f_openCount = 0 := F6
    have f7 : h_open = -1 := F7
    refine br_t f6 ?_
    rw [F8]
    refine fb_if (nI_leI (b := 0) (by omega) (by decide)) (fun z => ?_) (fun z => ?_)
    · refine br_t rfl (br_t ?_ ⟨rfl, I⟩)
      rw [F9, show C 6 = 0 from by omega]
      rfl
    · refine br_f (by decide) ?_
      have SL : ∀ s, s < 7 → fo_Slot a_nodeOp a_nodeA a_nodeB a_nodeParts a_nodeSize c_sort c_op c_na c_nb c_up c_val P Z O A T (56 * s) (C s) [] := by
        intro s hs
        rcases Nat.lt_or_ge s 6 with y | y
        · exact (F1 s y).1
        · have : s = 6 := by omega
          subst this
          exact F2
      have G := ru_w (pt := pt) SL (show 0 < C 6 by omega) (fun a ha => (F1 a ha).2.2.2.2.2) d3 g3.2 t4
      have X := ru_xG (d := d) (F := F) (f_openCount := f_openCount) (f_typeCount := f_typeCount) (a_openLists := a_openLists) SL (fun s hs => ⟨(F1 s hs).2.1, (F1 s hs).2.2.2.1⟩) t5
      have t5' : ∀ t, t < 16 → c_parent t = nI (pt t) ∧ (1 ≤ t → pt t < t) := by rw [t6]; exact t5
      have Yt := ru_yT (d := d) (F := F) (h_open := h_open) (h_types := h_types) SL (fun s hs => ⟨(F1 s hs).2.2.1, (F1 s hs).2.2.2.2.1⟩) F9 t5'
      obtain ⟨sp1, sp2⟩ := ru_sp R6
      have hs0 : w_s (ru_g a_nodeA a_nodeB P O A C (fun a => if a < 6 then ps a else 0) pt d F) (ru_l0 a_locals 8, a_elements, a_printed, 0, 0, ru_gl a_specialValue a_specialHas) := ⟨Nat.zero_le _, r5⟩
      have V6 : ru_V C 336 := G.2.2.1
      have hZ6 := (G.1 336 V6).2.2.1
      have Iq : w_iq (ru_g a_nodeA a_nodeB P O A C (fun a => if a < 6 then ps a else 0) pt d F) Z 336 [] := by
        refine ⟨?_, ?_⟩
        · show 2 * 0 + 3 * Z 336 + 1 + 0 + 170 * (5 - 0) ≤ 1040
          omega
        · show 2 * 0 + 4 * Z 336 + 0 + 224 * (5 - 0) ≤ 1400
          omega
      have W0 := w_ev G (n := 336) (e := 0) (l := []) (s := (ru_l0 a_locals 8, a_elements, a_printed, 0, 0, ru_gl a_specialValue a_specialHas)) V6 (by decide) trivial (Or.inl G.2.2.2.1) Iq (Nat.zero_le _) (fun q r' e => by cases e) hs0
      have hF200 : F ≤ 200 := g3.2
      obtain ⟨w1, w2, w3⟩ := W0
      have w2 : u_m (ru_g a_nodeA a_nodeB P O A C (fun a => if a < 6 then ps a else 0) pt d F) Z (m_ev (ru_g a_nodeA a_nodeB P O A C (fun a => if a < 6 then ps a else 0) pt d F) 336 0 [] (ru_l0 a_locals 8, a_elements, a_printed, 0, 0, ru_gl a_specialValue a_specialHas)) ≤ 201000 := by
        refine Nat.le_trans w2 ?_
        show 1000 * (F - 0) + 0 + 16 * Z 336 ≤ 201000
        omega
      have w3 : u_p (m_ev (ru_g a_nodeA a_nodeB P O A C (fun a => if a < 6 then ps a else 0) pt d F) 336 0 [] (ru_l0 a_locals 8, a_elements, a_printed, 0, 0, ru_gl a_specialValue a_specialHas)) ≤ 0 := w3
      obtain ⟨b, hb⟩ : ∃ b, b = 201000 := ⟨_, rfl⟩
      have w2 := Nat.le_trans w2 (Nat.le_of_eq hb.symm)
      have Wf := w_it G b w1
      have H4 := w_it4 G b w1 w2
      refine ⟨9, ?_⟩
      have hx := ru_l00 a_locals
      refine Eq.mp ?_ (ru_xst (f_openCount := f_openCount) (f_typeCount := f_typeCount) (f_printedCount := f_printedCount) (f_depthLimit := f_depthLimit) (f_fuelLimit := f_fuelLimit) (f_lastStatus := f_lastStatus) (f_lastValue := f_lastValue) (f_lastError := f_lastError) (f_lastDatum := f_lastDatum) (f_lastPlace := f_lastPlace) (f_beatsUsed := f_beatsUsed) (f_frameCount := f_frameCount) (f_mode := f_mode) (f_currentNode := f_currentNode) (f_currentEnv := f_currentEnv) (f_result := f_result) (f_calls := f_calls) (f_inForce := f_inForce) (f_exitTarget := f_exitTarget) (f_exitValue := f_exitValue) (f_exitType := f_exitType) (f_exitPlace := f_exitPlace) (a_nodeOp := a_nodeOp) (a_nodeA := a_nodeA) (a_nodeB := a_nodeB) (a_nodeParts := a_nodeParts) (a_nodeSize := a_nodeSize) (a_slotSize := a_slotSize) (a_slotParams := a_slotParams) (a_openLists := a_openLists) (a_typeParent := a_typeParent) (a_elements := a_elements) (a_specialValue := a_specialValue) (a_specialHas := a_specialHas) (a_printed := a_printed) (a_frames := a_frames) (L := a_locals) (P := fun u => ∃ n, xR (fun r u' => wpY_run (fun r' v' => r' = r ∧ i_Rel (k + 4) u' v') (h_depth, h_fuel, h_count, h_open, h_types, h_sp, h_ret, h_xTarget, h_xVal, h_xType, h_xPlace, h_have, h_exiting, h_running, h_outcome, h_value, h_error, h_datum, h_place, h_beats, h_printed, c_sort, c_op, c_na, c_nb, c_up, c_val, c_size, c_params, c_parent, c_global, c_cells, c_locals, c_has, c_node, c_got, c_handle, c_pTarget, c_pPlace, c_act, c_mode, c_bVar, c_pType, c_v0, c_v1, c_v2, c_last, c_bVal, c_pVal, c_out)) n 0 u) ?_ 8 0 9 (by omega) (by omega))
      · rw [hx]
        rfl
      · refine ⟨8 * b + 1 + 0 + 1, ?_⟩
        subst d1 g1
        show xR _ (8 * b + 1 + 0 + 1) 0 (xU (ru_g a_nodeA a_nodeB P O A C (fun a => if a < 6 then ps a else 0) pt d F) f_openCount f_typeCount a_nodeOp a_nodeA a_nodeB a_nodeParts a_nodeSize a_slotSize a_slotParams a_openLists a_typeParent x_z0 (ru_l0 a_locals 8, a_elements, a_printed, 0, 0, ru_gl a_specialValue a_specialHas) 0 (nI 0) (-1) 0 (nI 336) (nI 0) f_result f_exitTarget f_exitValue f_exitType f_exitPlace a_specialValue a_specialHas a_frames)
        refine x_go (by decide) (show ¬ (0 : Int32) = 7 by decide) ?_
        refine x_ev (l := []) (s := (ru_l0 a_locals 8, a_elements, a_printed, 0, 0, ru_gl a_specialValue a_specialHas)) G X V6 (by decide) (by decide) (Nat.zero_le _) sp1 trivial (fun u' hu => ?_)
        refine x_run (N := 0) (i := 0 + 1) G X b w1 w2 (by omega) hu (by omega) (fun h4 N i u'' hi hu2 => ?_)
        refine x_end G Wf H4 hu2 hi (fun ca' inf' mo cn ce re et ex ey ep sv' sh' fr hsp => ?_)
        refine br_f ?_ (br_t ?_ ⟨9, ?_⟩)
        · rw [F9]
          exact xx_ne (b := 0) (by omega) (by omega) (by decide)
        · rw [f7]; decide
        have hxy := ru_l00 c_locals
        refine Eq.mp ?_ (ru_yst (h_depth := h_depth) (h_fuel := h_fuel) (h_count := h_count) (h_open := h_open) (h_types := h_types) (h_sp := 0) (h_ret := h_ret) (h_xTarget := h_xTarget) (h_xVal := h_xVal) (h_xType := h_xType) (h_xPlace := h_xPlace) (h_have := h_have) (h_exiting := h_exiting) (h_running := h_running) (h_outcome := h_outcome) (h_value := 0) (h_error := 0) (h_datum := 0) (h_place := -1) (h_beats := 0) (h_printed := 0) (c_sort := c_sort) (c_op := c_op) (c_na := c_na) (c_nb := c_nb) (c_up := c_up) (c_val := c_val) (c_size := c_size) (c_params := c_params) (c_parent := c_parent) (c_global := c_global) (c_cells := c_cells) (c_has := c_has) (c_node := c_node) (c_got := c_got) (c_handle := c_handle) (c_pTarget := c_pTarget) (c_pPlace := c_pPlace) (c_act := c_act) (c_mode := c_mode) (c_bVar := c_bVar) (c_pType := c_pType) (c_v0 := c_v0) (c_v1 := c_v1) (c_v2 := c_v2) (c_last := c_last) (c_bVal := c_bVal) (c_pVal := c_pVal) (c_out := c_out) (L := c_locals) (post := fun r' v' => r' = (x_z (m_it (ru_g a_nodeA a_nodeB P O A C (fun a => if a < 6 then ps a else 0) pt d F) b (m_ev (ru_g a_nodeA a_nodeB P O A C (fun a => if a < 6 then ps a else 0) pt d F) 336 0 [] (ru_l0 a_locals 8, a_elements, a_printed, 0, 0, ru_gl a_specialValue a_specialHas)))).1 ∧ i_Rel (k + 4) (xU (ru_g a_nodeA a_nodeB P O A C (fun a => if a < 6 then ps a else 0) pt d F) 0 f_typeCount a_nodeOp a_nodeA a_nodeB a_nodeParts a_nodeSize (upd a_slotSize 6 0) a_slotParams a_openLists a_typeParent (x_z (m_it (ru_g a_nodeA a_nodeB P O A C (fun a => if a < 6 then ps a else 0) pt d F) b (m_ev (ru_g a_nodeA a_nodeB P O A C (fun a => if a < 6 then ps a else 0) pt d F) 336 0 [] (ru_l0 a_locals 8, a_elements, a_printed, 0, 0, ru_gl a_specialValue a_specialHas)))) (m_it (ru_g a_nodeA a_nodeB P O A C (fun a => if a < 6 then ps a else 0) pt d F) b (m_ev (ru_g a_nodeA a_nodeB P O A C (fun a => if a < 6 then ps a else 0) pt d F) 336 0 [] (ru_l0 a_locals 8, a_elements, a_printed, 0, 0, ru_gl a_specialValue a_specialHas))).2.2.2.2.2.2 0 ca' inf' mo cn ce re et ex ey ep sv' sh' fr) v') ?_ 8 0 9 (by omega) (by omega))
        · rw [hxy]
          rfl
        · have d2' : h_depth = nI d := d2
          have g2' : h_fuel = nI F := g2
          subst r2 r3 r4
          subst d2' g2'
          refine y_ev (l := []) (oc := h_outcome) (s := (ru_l0 c_locals 8, c_cells, c_out, 0, 0, ru_gl a_specialValue a_specialHas)) G Yt V6 (by decide) trivial (fun q r' e => by cases e) Iq (Nat.zero_le _) sp2 trivial (fun u3 hq => ?_)
          refine ⟨2 * b + 1 + 1, ?_⟩
          refine y_set0 (N := 2 * b + 1) (j := 0) G Yt (by decide) hq (fun u4 hu4 => ?_) (fun u4 hu4 => ?_)
          · exact y_run (N := 1) (i := 0) G Yt b w1 w2 (by omega) hu4 (by omega) (fun _ N i u5 hi5 hu5 => y_end Wf H4 hu5 hi5 (fun ret xt xv xy xp ha exi gv gh b1 b2 b3 b4 b5 b6 b7 b8 b9 b10 b11 b12 b13 b14 b15 hgl => ⟨rfl, ru_rel ⟨rfl, d3⟩ ⟨rfl, g3⟩ ⟨t1, t2, ⟨t3, t4, pt, t5⟩, t6⟩ Wf.2.2.1 hsp hgl RT⟩))
          · exact y_run (N := 0) (i := 0 + 1) G Yt b w1 w2 (by omega) hu4 (by omega) (fun _ N i u5 hi5 hu5 => y_end Wf H4 hu5 hi5 (fun ret xt xv xy xp ha exi gv gh b1 b2 b3 b4 b5 b6 b7 b8 b9 b10 b11 b12 b13 b14 b15 hgl => ⟨rfl, ru_rel ⟨rfl, d3⟩ ⟨rfl, g3⟩ ⟨t1, t2, ⟨t3, t4, pt, t5⟩, t6⟩ Wf.2.2.1 hsp hgl RT⟩))
