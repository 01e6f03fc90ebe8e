/-! the run: its start and its end -/
def ru_l0 (L : Nat → Int32) (i : Nat) : Nat → Int32 := fun j => if j < i then 0 else L j
theorem ru_l00 (L : Nat → Int32) : ru_l0 L 0 = L := by
  funext j
  exact if_neg (by omega)
theorem ru_l0s (L : Nat → Int32) (i : Nat) : upd (ru_l0 L i) i 0 = ru_l0 L (i + 1) := by
  funext j
  by_cases h : j = i
  · rw [h, pk_us]
    exact (if_pos (by omega)).symm
  · rw [pk_un h]
    unfold ru_l0
    by_cases h2 : j < i
    · rw [if_pos h2, if_pos (by omega)]
    · rw [if_neg h2, if_neg (by omega)]
theorem ru_xst {f_openCount f_typeCount f_printedCount f_depthLimit f_fuelLimit f_lastStatus f_lastValue f_lastError f_lastDatum f_lastPlace f_beatsUsed f_frameCount f_mode f_currentNode f_currentEnv f_result f_calls f_inForce f_exitTarget f_exitValue f_exitType f_exitPlace : Int32} {a_nodeOp a_nodeA a_nodeB a_nodeParts a_nodeSize a_slotSize a_slotParams a_openLists a_typeParent a_elements a_specialValue a_specialHas a_printed a_frames : Nat → Int32} {P : SX → Prop} {L : Nat → Int32} (h : P (f_openCount, f_typeCount, 0, f_depthLimit, f_fuelLimit, 2, 0, 0, 0, (-1), 0, 0, 0, 336, 0, f_result, 0, (-1), f_exitTarget, f_exitValue, f_exitType, f_exitPlace, a_nodeOp, a_nodeA, a_nodeB, a_nodeParts, a_nodeSize, a_slotSize, a_slotParams, a_openLists, a_typeParent, a_elements, ru_l0 L 8, a_specialValue, a_specialHas, a_printed, a_frames)) : ∀ (d i n : Nat), i + d = 8 → d < n → wX_startRun_2 P f_openCount f_typeCount f_printedCount f_depthLimit f_fuelLimit f_lastStatus f_lastValue f_lastError f_lastDatum f_lastPlace f_beatsUsed f_frameCount f_mode f_currentNode f_currentEnv f_result f_calls f_inForce f_exitTarget f_exitValue f_exitType f_exitPlace n (nI i) a_nodeOp a_nodeA a_nodeB a_nodeParts a_nodeSize a_slotSize a_slotParams a_openLists a_typeParent a_elements (ru_l0 L i) a_specialValue a_specialHas a_printed a_frames
  | _, _, 0, _, hn => by omega
  | 0, i, n + 1, hi, hn => by
    have : i = 8 := by omega
    subst this
    rw [wX_startRun_2]
    exact br_t (by decide) h
  | d + 1, i, n + 1, hi, hn => by
    rw [wX_startRun_2]
    refine br_f (nI_ge (b := 8) (by omega) (by decide)) ?_
    refine yy_w 0 (by omega) rfl ?_
    rw [ru_l0s]
    exact nm_r (nI_1 i) (ru_xst h d (i + 1) n (by omega) (by omega))
theorem ru_yst {h_depth h_fuel h_count h_open h_types h_sp h_ret h_xTarget h_xVal h_xType h_xPlace h_have h_exiting h_running h_outcome h_value h_error h_datum h_place h_beats h_printed : Int32} {c_sort c_op c_na c_nb c_up c_val c_size c_params c_parent c_global c_cells c_has c_node c_got c_handle c_pTarget c_pPlace c_act c_mode c_bVar c_pType c_v0 c_v1 c_v2 c_last c_bVal c_pVal c_out : Nat → Int32} {post : Int32 → SY → Prop} {L : Nat → Int32} (h : wpY_evaluate (fun u => ∃ n, yR post n 0 u) (h_depth, h_fuel, h_count, h_open, h_types, h_sp, h_ret, h_xTarget, h_xVal, h_xType, h_xPlace, 0, 0, 1, h_outcome, h_value, h_error, h_datum, h_place, h_beats, h_printed, c_sort, c_op, c_na, c_nb, c_up, c_val, c_size, c_params, c_parent, c_global, c_cells, ru_l0 L 8, c_has, c_node, c_got, c_handle, c_pTarget, c_pPlace, c_act, c_mode, c_bVar, c_pType, c_v0, c_v1, c_v2, c_last, c_bVal, c_pVal, c_out) 336 0) : ∀ (d i n : Nat), i + d = 8 → d < n → wY_run_53 post h_depth h_fuel h_count h_open h_types h_sp h_ret h_xTarget h_xVal h_xType h_xPlace h_have h_exiting h_running h_outcome h_value h_error h_datum h_place h_beats h_printed n (nI i) c_sort c_op c_na c_nb c_up c_val c_size c_params c_parent c_global c_cells (ru_l0 L i) c_has c_node c_got c_handle c_pTarget c_pPlace c_act c_mode c_bVar c_pType c_v0 c_v1 c_v2 c_last c_bVal c_pVal c_out
  | _, _, 0, _, hn => by omega
  | 0, i, n + 1, hi, hn => by
    have : i = 8 := by omega
    subst this
    rw [wY_run_53]
    refine br_t (by decide) ?_
    have e : (fun u : SY => match u with | (h_depth_160, h_fuel_160, h_count_160, h_open_160, h_types_160, h_sp_160, h_ret_160, h_xTarget_160, h_xVal_160, h_xType_160, h_xPlace_160, h_have_160, h_exiting_160, h_running_160, h_outcome_160, h_value_160, h_error_160, h_datum_160, h_place_160, h_beats_160, h_printed_160, c_sort_160, c_op_160, c_na_160, c_nb_160, c_up_160, c_val_160, c_size_160, c_params_160, c_parent_160, c_global_160, c_cells_160, c_locals_160, c_has_160, c_node_160, c_got_160, c_handle_160, c_pTarget_160, c_pPlace_160, c_act_160, c_mode_160, c_bVar_160, c_pType_160, c_v0_160, c_v1_160, c_v2_160, c_last_160, c_bVal_160, c_pVal_160, c_out_160) => ∃ n : Nat, wY_run_97 post n 0 h_depth_160 h_fuel_160 h_count_160 h_open_160 h_types_160 h_sp_160 h_ret_160 h_xTarget_160 h_xVal_160 h_xType_160 h_xPlace_160 h_have_160 h_exiting_160 h_running_160 h_outcome_160 h_value_160 h_error_160 h_datum_160 h_place_160 h_beats_160 h_printed_160 c_sort_160 c_op_160 c_na_160 c_nb_160 c_up_160 c_val_160 c_size_160 c_params_160 c_parent_160 c_global_160 c_cells_160 c_locals_160 c_has_160 c_node_160 c_got_160 c_handle_160 c_pTarget_160 c_pPlace_160 c_act_160 c_mode_160 c_bVar_160 c_pType_160 c_v0_160 c_v1_160 c_v2_160 c_last_160 c_bVal_160 c_pVal_160 c_out_160) = fun u => ∃ n, yR post n 0 u := by
      funext u
      obtain ⟨h_depth_160, h_fuel_160, h_count_160, h_open_160, h_types_160, h_sp_160, h_ret_160, h_xTarget_160, h_xVal_160, h_xType_160, h_xPlace_160, h_have_160, h_exiting_160, h_running_160, h_outcome_160, h_value_160, h_error_160, h_datum_160, h_place_160, h_beats_160, h_printed_160, c_sort_160, c_op_160, c_na_160, c_nb_160, c_up_160, c_val_160, c_size_160, c_params_160, c_parent_160, c_global_160, c_cells_160, c_locals_160, c_has_160, c_node_160, c_got_160, c_handle_160, c_pTarget_160, c_pPlace_160, c_act_160, c_mode_160, c_bVar_160, c_pType_160, c_v0_160, c_v1_160, c_v2_160, c_last_160, c_bVal_160, c_pVal_160, c_out_160⟩ := u
      rfl
    exact (congrArg (fun Q => wpY_evaluate Q (h_depth, h_fuel, h_count, h_open, h_types, h_sp, h_ret, h_xTarget, h_xVal, h_xType, h_xPlace, 0, 0, 1, h_outcome, h_value, h_error, h_datum, h_place, h_beats, h_printed, c_sort, c_op, c_na, c_nb, c_up, c_val, c_size, c_params, c_parent, c_global, c_cells, ru_l0 L 8, c_has, c_node, c_got, c_handle, c_pTarget, c_pPlace, c_act, c_mode, c_bVar, c_pType, c_v0, c_v1, c_v2, c_last, c_bVal, c_pVal, c_out) 336 0) e).mpr h
  | d + 1, i, n + 1, hi, hn => by
    rw [wY_run_53]
    refine br_f (nI_ge (b := 8) (by omega) (by decide)) ?_
    refine yy_w 0 (by omega) rfl ?_
    rw [ru_l0s]
    exact nm_r (nI_1 i) (ru_yst h d (i + 1) n (by omega) (by omega))
section
variable {g : mG} {V : Nat → Prop} {Z : Nat → Nat} {pa : Nat → Option Nat} {T : Nat} {f_openCount f_typeCount : Int32} {a_nodeOp a_nodeA a_nodeB a_nodeParts a_nodeSize a_slotSize a_slotParams a_openLists a_typeParent : Nat → Int32} {h_count h_open h_types : Int32} {c_sort c_op c_na c_nb c_up c_val c_size c_params c_parent : Nat → Int32} {post : Int32 → SY → Prop} {N i j : Nat}
theorem w_it (G : g_w g V Z pa T) : ∀ (b : Nat) {m : MS}, w_m g V Z pa m → w_m g V Z pa (m_it g b m)
  | 0, _, W => W
  | b + 1, m, W => by
    rcases Nat.lt_or_ge m.1 4 with z | z
    · exact w_it G b (w_step G W z).1.1
    · rw [m_it_done z]; exact W
theorem w_it4 (G : g_w g V Z pa T) : ∀ (b : Nat) {m : MS}, w_m g V Z pa m → u_m g Z m ≤ b → 4 ≤ (m_it g b m).1
  | 0, m, W, hu => by
    rcases Nat.lt_or_ge m.1 4 with z | z
    · have := (w_step G W z).2
      omega
    · exact z
  | b + 1, m, W, hu => by
    rcases Nat.lt_or_ge m.1 4 with z | z
    · obtain ⟨⟨s1, s2, s3⟩, s4⟩ := w_step G W z
      exact w_it4 G b s1 (by omega)
    · rw [m_it_done z]; exact z
theorem y_set0 (G : g_w g V Z pa T) (Yt : yT g V h_count h_open h_types c_sort c_op c_na c_nb c_up c_val c_size c_params c_parent) {m : MS} {u : SY} (hj : j + 1 < 1000000) (S : yQ g V h_count h_open h_types c_sort c_op c_na c_nb c_up c_val c_size c_params c_parent m u) (H1 : ∀ u', py_R g h_count h_open h_types c_sort c_op c_na c_nb c_up c_val c_size c_params c_parent m u' → yR post (N + 1) j u') (H0 : ∀ u', py_R g h_count h_open h_types c_sort c_op c_na c_nb c_up c_val c_size c_params c_parent m u' → yR post N (j + 1) u') : yR post (N + 1) j u := by
  rcases S with R | ⟨v, oc, xt, xv, xy, xp, gv, gh, c_node, c_got, c_handle, c_pTarget, c_pPlace, c_act, c_mode, c_bVar, c_pType, c_v0, c_v1, c_v2, c_last, c_bVal, c_pVal, s, rfl, hg, rfl⟩ | ⟨oc, ret, xt, xv, xy, xp, gv, gh, c_node, c_got, c_handle, c_pTarget, c_pPlace, c_act, c_mode, c_bVar, c_pType, c_v0, c_v1, c_v2, c_last, c_bVal, c_pVal, s, l, k, n, rfl, hg, hk, hV, o10, k1, k2, hF, hF2, rfl⟩
  · exact H1 u R
  · refine y_go (by omega) (show ¬ (1 : Int32) = 0 by decide) ?_
    refine br_t rfl (br_t rfl ?_)
    show yR post N (j + 1) (yU g h_count h_open h_types c_sort c_op c_na c_nb c_up c_val c_size c_params c_parent (0, v, 0, 0, -1) 0 (sBe s) s 0 v xt xv xy xp 1 0 gv gh c_node c_got c_handle c_pTarget c_pPlace c_act c_mode c_bVar c_pType c_v0 c_v1 c_v2 c_last c_bVal c_pVal)
    exact H0 _ ⟨oc, sBe s, 0, v, xt, xv, xy, xp, 1, 0, gv, gh, c_node, c_got, c_handle, c_pTarget, c_pPlace, c_act, c_mode, c_bVar, c_pType, c_v0, c_v1, c_v2, c_last, c_bVal, c_pVal, hg, fun z => absurd z (by show ¬ 4 < 4; decide), fun z => (by cases z), fun z => (by cases z), fun z => (by cases z), fun z => (by cases z), fun _ => rfl, rfl⟩
  · have hn := (G.1 n hV).2.2.2.1
    have hop := ((Yt.1 n hV).2.2.1 (by omega)).2
    have hF3 : gF g ≤ 200 := G.2.2.2.2.2.2.1
    refine y_go (by omega) (show ¬ (1 : Int32) = 0 by decide) ?_
    refine br_t rfl ?_
    refine br_f (xx_ne (a := k + 1) (b := 0) (by omega) (by omega) (by decide)) ?_
    rw [show (nI (k + 1) - 1 : Int32) = nI k from nI_pred k]
    refine ⟨vp_in_nI hk (by decide), ?_⟩
    rw [nI_clamp (by omega), k1]
    refine br_t (nI_pos' (by omega)) ?_
    unfold wpY_advance
    dsimp only
    refine ⟨vp_in_nI hk (by decide), ?_⟩
    rw [nI_clamp (by omega), k1]
    refine nm_e ?_
    refine xx_n hn ?_
    rw [hop, o10]
    refine Yt.2.1 n hV _ _ _ _ _ _ _ _ _ _ _ _ _ _ _ _ _ _ _ _ _ _ _ _ _ _ _ _ _ _ _ _ _ _ _ _ _ _ _ ?_
    refine br_t rfl ?_
    refine ⟨vp_in_nI hk (by decide), ?_⟩
    rw [nI_clamp (by omega), k2]
    refine nm_e ?_
    refine br_f (by decide) (br_t rfl ?_)
    refine br_t rfl ?_
    refine y_beat hF2 hF3 (fun z => by omega) (fun z => ?_)
    refine br_t rfl ?_
    show yR post N (j + 1) (yU g h_count h_open h_types c_sort c_op c_na c_nb c_up c_val c_size c_params c_parent (2, 0, 0, 0, -1) 0 (sBe s) s (k + 1) ret xt xv xy xp 0 0 gv gh c_node c_got c_handle c_pTarget c_pPlace c_act c_mode c_bVar c_pType c_v0 c_v1 c_v2 c_last c_bVal c_pVal)
    exact H0 _ ⟨oc, sBe s, k + 1, ret, xt, xv, xy, xp, 0, 0, gv, gh, c_node, c_got, c_handle, c_pTarget, c_pPlace, c_act, c_mode, c_bVar, c_pType, c_v0, c_v1, c_v2, c_last, c_bVal, c_pVal, hg, fun z => absurd z (by show ¬ 6 < 4; decide), fun z => (by cases z), fun z => (by cases z), fun z => (by cases z), fun z => (by cases z), fun _ => rfl, rfl⟩
theorem y_end {m : MS} {u : SY} (W : w_m g V Z pa m) (h4 : 4 ≤ m.1) (R : py_R g h_count h_open h_types c_sort c_op c_na c_nb c_up c_val c_size c_params c_parent m u) (hi : i < 1000000) (H : ∀ (ret xt xv xy xp ha exi : Int32) (gv gh : Nat → Int32) (c_node c_got c_handle c_pTarget c_pPlace c_act c_mode c_bVar c_pType c_v0 c_v1 c_v2 c_last c_bVal c_pVal : Nat → Int32), yGl gv gh (sGl m.2.2.2.2.2.2) → post (x_z m).1 (yU g 0 (-1) h_types c_sort c_op c_na c_nb c_up c_val c_size c_params c_parent (x_z m) 0 (sBe m.2.2.2.2.2.2) m.2.2.2.2.2.2 0 ret xt xv xy xp ha exi gv gh c_node c_got c_handle c_pTarget c_pPlace c_act c_mode c_bVar c_pType c_v0 c_v1 c_v2 c_last c_bVal c_pVal)) : yR post (N + 1) i u := by
  obtain ⟨t, v, tgt, t5, pp, l, s⟩ := m
  obtain ⟨oc, be, sp, ret, xt, xv, xy, xp, ha, exi, gv, gh, c_node, c_got, c_handle, c_pTarget, c_pPlace, c_act, c_mode, c_bVar, c_pType, c_v0, c_v1, c_v2, c_last, c_bVal, c_pVal, hg, _, _, _, _, _, rb, rfl⟩ := R
  obtain ⟨_, _, _, hE, _⟩ := W
  have rb : be = sBe s := rb (by have h4 : 4 ≤ t := h4; show 1 ≤ t; omega)
  subst rb
  have H := H ret xt xv xy xp ha exi gv gh c_node c_got c_handle c_pTarget c_pPlace c_act c_mode c_bVar c_pType c_v0 c_v1 c_v2 c_last c_bVal c_pVal hg
  rcases hE h4 with ⟨rfl, rfl⟩ | ⟨rfl, rfl⟩ | ⟨rfl, w, Wl⟩
  · exact br_f (nI_ge (b := 1000000) hi (by decide)) (br_t rfl H)
  · exact br_f (nI_ge (b := 1000000) hi (by decide)) (br_t rfl H)
  · exact br_f (nI_ge (b := 1000000) hi (by decide)) (br_t rfl H)
end
