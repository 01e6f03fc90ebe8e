/-! define -/
def fo_cp {α : Type} (a : Nat → α) (f t : Nat) : Nat → α := fun j => if 56 * f ≤ j ∧ j < 56 * f + t then a (336 + (j - 56 * f)) else a j
theorem fo_cp_0 {α : Type} (a : Nat → α) (f : Nat) : fo_cp a f 0 = a := by
  funext j
  exact if_neg (by omega)
theorem fo_cp_in {α : Type} {a : Nat → α} {f t i : Nat} (h : i < t) : fo_cp a f t (56 * f + i) = a (336 + i) := by
  have e : 56 * f + i - 56 * f = i := by omega
  show (if 56 * f ≤ 56 * f + i ∧ 56 * f + i < 56 * f + t then a (336 + (56 * f + i - 56 * f)) else a (56 * f + i)) = _
  rw [if_pos (by omega), e]
theorem fo_cp_out {α : Type} {a : Nat → α} {f t j : Nat} (h : ¬ (56 * f ≤ j ∧ j < 56 * f + t)) : fo_cp a f t j = a j := if_neg h
theorem fo_cp_s {a : Nat → Int32} {f t : Nat} {x : Int32} (hx : x = a (336 + t)) : upd (fo_cp a f t) (56 * f + t) x = fo_cp a f (t + 1) := by
  funext j
  by_cases e : j = 56 * f + t
  · rw [e, pk_us, fo_cp_in (Nat.lt_succ_self t), hx]
  · rw [pk_un e]
    by_cases g : 56 * f ≤ j ∧ j < 56 * f + t
    · show (if 56 * f ≤ j ∧ j < 56 * f + t then a (336 + (j - 56 * f)) else a j) = (if 56 * f ≤ j ∧ j < 56 * f + (t + 1) then a (336 + (j - 56 * f)) else a j)
      rw [if_pos g, if_pos (by omega)]
    · rw [fo_cp_out g, fo_cp_out (by omega)]
theorem fo_cp_x {a : Nat → Int32} {f t : Nat} (hf : f < 6) (ht : t < 56) : upd (fo_cp a f t) (nI (56 * f) + nI t).toNatClampNeg (fo_cp a f t (336 + nI t).toNatClampNeg) = fo_cp a f (t + 1) := by
  rw [nI_add, fb_336, nI_clamp (by omega), nI_clamp (by omega)]
  exact fo_cp_s (fo_cp_out (by omega))
theorem fo_cp_y {a : Nat → Int32} {f t : Nat} (hf : f < 6) (ht : t < 56) (hb : rl_Fb a) : upd (fo_cp a f t) (nI (56 * f + t)).toNatClampNeg (vp_nar .byte (fo_cp a f t (336 + nI t).toNatClampNeg)) = fo_cp a f (t + 1) := by
  rw [fb_336, nI_clamp (by omega), nI_clamp (by omega), fo_cp_out (by omega), hb]
  exact fo_cp_s rfl
theorem fo_cp_z {a : Nat → Int32} {f t : Nat} (hf : f < 6) (ht : t < 56) : upd (fo_cp a f t) (nI (56 * f + t)).toNatClampNeg (fo_cp a f t (336 + nI t).toNatClampNeg) = fo_cp a f (t + 1) := by
  rw [fb_336, nI_clamp (by omega), nI_clamp (by omega), fo_cp_out (by omega)]
  exact fo_cp_s rfl
theorem fo_cp_Fb {a : Nat → Int32} {f t : Nat} (hb : rl_Fb a) : rl_Fb (fo_cp a f t) := by
  intro j
  by_cases g : 56 * f ≤ j ∧ j < 56 * f + t
  · show vp_nar .byte (if 56 * f ≤ j ∧ j < 56 * f + t then a (336 + (j - 56 * f)) else a j) = (if 56 * f ≤ j ∧ j < 56 * f + t then a (336 + (j - 56 * f)) else a j)
    rw [if_pos g]; exact hb _
  · rw [fo_cp_out g]; exact hb _
def fo_tot (C : Nat → Nat) (f : Nat) : Nat → Nat → Nat
  | 0, _ => 0
  | d + 1, t => (if t = f then 0 else C t) + fo_tot C f d (t + 1)
section
variable {f_openCount f_typeCount f_printedCount f_depthLimit f_fuelLimit f_lastStatus f_lastValue f_lastError f_lastDatum f_lastPlace f_beatsUsed f_frameCount f_mode f_currentNode f_currentEnv f_result f_calls f_inForce f_exitTarget f_exitValue f_exitType f_exitPlace : Int32} {a_nodeOp a_nodeA a_nodeB a_nodeParts a_nodeSize a_slotSize a_slotParams a_openLists a_typeParent a_elements a_locals a_specialValue a_specialHas a_printed a_frames : Nat → Int32} {h_depth h_fuel h_count h_open h_types h_sp h_ret h_xTarget h_xVal h_xType h_xPlace h_have h_exiting h_running h_outcome h_value h_error h_datum h_place h_beats h_printed : Int32} {c_sort c_op c_na c_nb c_up c_val c_size c_params c_parent c_global c_cells c_locals c_has c_node c_got c_handle c_pTarget c_pPlace c_act c_mode c_bVar c_pType c_v0 c_v1 c_v2 c_last c_bVal c_pVal c_out : Nat → Int32}
theorem xl_store16 {post : SX → Prop} {f cnt : Nat} (hf : f < 6) (hc : cnt ≤ 56) (hp : post (f_openCount, f_typeCount, f_printedCount, f_depthLimit, f_fuelLimit, f_lastStatus, f_lastValue, f_lastError, f_lastDatum, f_lastPlace, f_beatsUsed, f_frameCount, f_mode, f_currentNode, f_currentEnv, f_result, f_calls, f_inForce, f_exitTarget, f_exitValue, f_exitType, f_exitPlace, fo_cp a_nodeOp f cnt, fo_cp a_nodeA f cnt, fo_cp a_nodeB f cnt, fo_cp a_nodeParts f cnt, fo_cp a_nodeSize f cnt, upd a_slotSize f (nI cnt), a_slotParams, a_openLists, a_typeParent, a_elements, a_locals, a_specialValue, a_specialHas, a_printed, a_frames)) : ∀ (d t n : Nat), t + d = cnt → d < n → wX_storeForm_16 post (nI f) (nI (56 * f)) (nI cnt) f_openCount f_typeCount f_printedCount f_depthLimit f_fuelLimit f_lastStatus f_lastValue f_lastError f_lastDatum f_lastPlace f_beatsUsed f_frameCount f_mode f_currentNode f_currentEnv f_result f_calls f_inForce f_exitTarget f_exitValue f_exitType f_exitPlace n (nI t) (fo_cp a_nodeOp f t) (fo_cp a_nodeA f t) (fo_cp a_nodeB f t) (fo_cp a_nodeParts f t) (fo_cp a_nodeSize f t) a_slotSize a_slotParams a_openLists a_typeParent a_elements a_locals a_specialValue a_specialHas a_printed a_frames
  | _, _, 0, _, h => by omega
  | 0, t, n + 1, ht, _ => by
    have e : t = cnt := by omega
    subst e
    refine br_t (nI_le (Nat.le_refl _) (by omega)) ⟨vp_in_nI (by omega) (by decide), nm_e ?_⟩
    rw [nI_clamp (by omega)]
    exact hp
  | d + 1, t, n + 1, ht, hn => by
    have i1 : vp_in (336 + nI t) 392 := by rw [fb_336]; exact vp_in_nI (by omega) (by decide)
    have i2 : vp_in (nI (56 * f) + nI t) 392 := by rw [nI_add]; exact vp_in_nI (by omega) (by decide)
    refine br_f (nI_ge (by omega) (by omega)) (br_f (nI_ge (b := 56) (by omega) (by decide)) ?_)
    refine ⟨i1, i2, nm_r (fo_cp_x hf (by omega)) ⟨i1, i2, nm_r (fo_cp_x hf (by omega)) ⟨i1, i2, nm_r (fo_cp_x hf (by omega)) ⟨i1, i2, nm_r (fo_cp_x hf (by omega)) ⟨i1, i2, nm_r (fo_cp_x hf (by omega)) (nm_r (nI_1 t) ?_)⟩⟩⟩⟩⟩
    exact xl_store16 hf hc hp d (t + 1) n (by omega) (by omega)
theorem xl_store {post : SX → Prop} {f cnt : Nat} (hf : f < 6) (hc : cnt ≤ 56) (hs : a_slotSize 6 = nI cnt) (hp : post (f_openCount, f_typeCount, f_printedCount, f_depthLimit, f_fuelLimit, f_lastStatus, f_lastValue, f_lastError, f_lastDatum, f_lastPlace, f_beatsUsed, f_frameCount, f_mode, f_currentNode, f_currentEnv, f_result, f_calls, f_inForce, f_exitTarget, f_exitValue, f_exitType, f_exitPlace, fo_cp a_nodeOp f cnt, fo_cp a_nodeA f cnt, fo_cp a_nodeB f cnt, fo_cp a_nodeParts f cnt, fo_cp a_nodeSize f cnt, upd a_slotSize f (nI cnt), a_slotParams, a_openLists, a_typeParent, a_elements, a_locals, a_specialValue, a_specialHas, a_printed, a_frames)) : wpX_storeForm post (f_openCount, f_typeCount, f_printedCount, f_depthLimit, f_fuelLimit, f_lastStatus, f_lastValue, f_lastError, f_lastDatum, f_lastPlace, f_beatsUsed, f_frameCount, f_mode, f_currentNode, f_currentEnv, f_result, f_calls, f_inForce, f_exitTarget, f_exitValue, f_exitType, f_exitPlace, a_nodeOp, a_nodeA, a_nodeB, a_nodeParts, a_nodeSize, a_slotSize, a_slotParams, a_openLists, a_typeParent, a_elements, a_locals, a_specialValue, a_specialHas, a_printed, a_frames) (nI f) := by
  have e : nI f * 56 = nI (56 * f) := by rw [show (56 : Int32) = nI 56 from rfl, pk_mul, Nat.mul_comm]
  refine nm_r e (nm_r hs ⟨cnt + 1, ?_⟩)
  have := xl_store16 (post := post) hf hc hp cnt 0 (cnt + 1) (by omega) (by omega)
  rw [fo_cp_0, fo_cp_0, fo_cp_0, fo_cp_0, fo_cp_0] at this
  exact this
theorem xl_def40 {post : Int32 → SX → Prop} {C : Nat → Nat} {f cnt : Nat} {p1 : Int32} (hf : f < 6) (hc : cnt ≤ 56) (hs : a_slotSize 6 = nI cnt) (hC : ∀ s, s < 6 → a_slotSize s = nI (C s) ∧ C s ≤ 56) : ∀ (d t s n : Nat), t + d = 6 → d < n → s + 56 * d ≤ 1000 → (s + fo_tot C f d t ≤ 200 → post 0 (0, f_typeCount, f_printedCount, f_depthLimit, f_fuelLimit, f_lastStatus, f_lastValue, f_lastError, f_lastDatum, f_lastPlace, f_beatsUsed, f_frameCount, f_mode, f_currentNode, f_currentEnv, f_result, f_calls, f_inForce, f_exitTarget, f_exitValue, f_exitType, f_exitPlace, fo_cp a_nodeOp f cnt, fo_cp a_nodeA f cnt, fo_cp a_nodeB f cnt, fo_cp a_nodeParts f cnt, fo_cp a_nodeSize f cnt, upd (upd a_slotSize f (nI cnt)) 6 0, upd a_slotParams f p1, a_openLists, a_typeParent, a_elements, a_locals, a_specialValue, a_specialHas, a_printed, a_frames)) → (200 < s + fo_tot C f d t → post 5 (f_openCount, f_typeCount, f_printedCount, f_depthLimit, f_fuelLimit, f_lastStatus, f_lastValue, f_lastError, f_lastDatum, f_lastPlace, f_beatsUsed, f_frameCount, f_mode, f_currentNode, f_currentEnv, f_result, f_calls, f_inForce, f_exitTarget, f_exitValue, f_exitType, f_exitPlace, a_nodeOp, a_nodeA, a_nodeB, a_nodeParts, a_nodeSize, a_slotSize, a_slotParams, a_openLists, a_typeParent, a_elements, a_locals, a_specialValue, a_specialHas, a_printed, a_frames)) → wX_define_40 post (nI f) p1 f_openCount f_typeCount f_printedCount f_depthLimit f_fuelLimit f_lastStatus f_lastValue f_lastError f_lastDatum f_lastPlace f_beatsUsed f_frameCount f_mode f_currentNode f_currentEnv f_result f_calls f_inForce f_exitTarget f_exitValue f_exitType f_exitPlace a_nodeOp a_nodeA a_nodeB a_nodeParts a_nodeSize a_slotSize a_slotParams a_openLists a_typeParent a_elements a_locals a_specialValue a_specialHas a_printed a_frames n (nI s) (nI t)
  | _, _, _, 0, _, h, _, _, _ => by omega
  | 0, t, s, n + 1, ht, _, hb, h1, h2 => by
    refine br_t (nI_le (a := 6) (by omega) (by omega)) (pk_le s 200 (fun z => ?_) (fun z => h2 z))
    refine xl_store hf hc hs ?_
    refine ⟨vp_in_nI (by omega) (by decide), nm_e ?_⟩
    rw [nI_clamp (by omega)]
    exact nm_e (h1 z)
  | d + 1, t, s, n + 1, ht, hn, hb, h1, h2 => by
    refine br_f (nI_ge (b := 6) (by omega) (by decide)) ?_
    have g1 : s + ((if t = f then 0 else C t) + fo_tot C f d (t + 1)) ≤ 200 → _ := h1
    have g2 : 200 < s + ((if t = f then 0 else C t) + fo_tot C f d (t + 1)) → _ := h2
    refine pk_eq t f (fun z => ?_) (fun z => ?_)
    · rw [if_pos z, Nat.zero_add] at g1 g2
      exact nm_r (Int32.add_zero _) (nm_r (nI_1 t) (xl_def40 hf hc hs hC d (t + 1) s n (by omega) (by omega) (by omega) g1 g2))
    · rw [if_neg z, ← Nat.add_assoc] at g1 g2
      refine ⟨vp_in_nI (by omega) (by decide), ?_⟩
      rw [nI_clamp (by omega), (hC t (by omega)).1]
      have := (hC t (by omega)).2
      exact nm_r (nI_add _ _) (nm_r (nI_1 t) (xl_def40 hf hc hs hC d (t + 1) (s + C t) n (by omega) (by omega) (by omega) g1 g2))
theorem yl_def102 {post : Int32 → SY → Prop} {f cnt : Nat} (hf : f < 6) (hc : cnt ≤ 56) (hs : h_count = nI cnt) (b1 : rl_Fb c_sort) (b2 : rl_Fb c_op) (b3 : rl_Fb c_na) (b4 : rl_Fb c_nb) (b5 : rl_Fb c_up) (hp : post 0 (h_depth, h_fuel, 0, (-1), h_types, h_sp, h_ret, h_xTarget, h_xVal, h_xType, h_xPlace, h_have, h_exiting, h_running, h_outcome, h_value, h_error, h_datum, h_place, h_beats, h_printed, fo_cp c_sort f cnt, fo_cp c_op f cnt, fo_cp c_na f cnt, fo_cp c_nb f cnt, fo_cp c_up f cnt, fo_cp c_val f cnt, c_size, c_params, c_parent, c_global, c_cells, c_locals, c_has, c_node, c_got, c_handle, c_pTarget, c_pPlace, c_act, c_mode, c_bVar, c_pType, c_v0, c_v1, c_v2, c_last, c_bVal, c_pVal, c_out)) : ∀ (d t n : Nat), t + d = cnt → d < n → wY_define_102 post (nI f) h_depth h_fuel h_count h_open h_types h_sp h_ret h_xTarget h_xVal h_xType h_xPlace h_have h_exiting h_running h_outcome h_value h_error h_datum h_place h_beats h_printed n (nI t) (fo_cp c_sort f t) (fo_cp c_op f t) (fo_cp c_na f t) (fo_cp c_nb f t) (fo_cp c_up f t) (fo_cp c_val f t) c_size c_params c_parent c_global c_cells c_locals c_has c_node c_got c_handle c_pTarget c_pPlace c_act c_mode c_bVar c_pType c_v0 c_v1 c_v2 c_last c_bVal c_pVal c_out
  | _, _, 0, _, h => by omega
  | 0, t, n + 1, ht, _ => by
    have e : t = cnt := by omega
    subst e
    exact br_t (by rw [hs]; exact nI_le (Nat.le_refl _) (by omega)) hp
  | d + 1, t, n + 1, ht, hn => by
    have i1 : vp_in (336 + nI t) 392 := by rw [fb_336]; exact vp_in_nI (by omega) (by decide)
    have i2 : vp_in (nI (56 * f + t)) 392 := vp_in_nI (by omega) (by decide)
    have e : (56 * nI f) + nI t = nI (56 * f + t) := by rw [show (56 : Int32) = nI 56 from rfl, pk_mul, nI_add]
    refine br_f (by rw [hs]; exact nI_ge (by omega) (by omega)) (nm_r e ?_)
    refine ⟨i1, i2, nm_r (fo_cp_y hf (by omega) b1) ⟨i1, i2, nm_r (fo_cp_y hf (by omega) b2) ⟨i1, i2, nm_r (fo_cp_y hf (by omega) b3) ⟨i1, i2, nm_r (fo_cp_y hf (by omega) b4) ⟨i1, i2, nm_r (fo_cp_y hf (by omega) b5) ⟨i1, i2, nm_r (fo_cp_z hf (by omega)) (nm_r (nI_1 t) ?_)⟩⟩⟩⟩⟩⟩
    exact yl_def102 hf hc hs b1 b2 b3 b4 b5 hp d (t + 1) n (by omega) (by omega)
theorem yl_def44 {post : Int32 → SY → Prop} {C : Nat → Nat} {f cnt : Nat} {p1 : Int32} (hf : f < 6) (hc : cnt ≤ 56) (hs : h_count = nI cnt) (b1 : rl_Fb c_sort) (b2 : rl_Fb c_op) (b3 : rl_Fb c_na) (b4 : rl_Fb c_nb) (b5 : rl_Fb c_up) (hC : ∀ s, s < 6 → c_size s = nI (C s) ∧ C s ≤ 56) : ∀ (d t s n : Nat), t + d = 6 → d < n → s + 56 * d ≤ 1000 → (s + fo_tot C f d t ≤ 200 → post 0 (h_depth, h_fuel, 0, (-1), h_types, h_sp, h_ret, h_xTarget, h_xVal, h_xType, h_xPlace, h_have, h_exiting, h_running, h_outcome, h_value, h_error, h_datum, h_place, h_beats, h_printed, fo_cp c_sort f cnt, fo_cp c_op f cnt, fo_cp c_na f cnt, fo_cp c_nb f cnt, fo_cp c_up f cnt, fo_cp c_val f cnt, upd c_size f (nI cnt), upd c_params f p1, c_parent, c_global, c_cells, c_locals, c_has, c_node, c_got, c_handle, c_pTarget, c_pPlace, c_act, c_mode, c_bVar, c_pType, c_v0, c_v1, c_v2, c_last, c_bVal, c_pVal, c_out)) → (200 < s + fo_tot C f d t → post 5 (h_depth, h_fuel, h_count, h_open, h_types, h_sp, h_ret, h_xTarget, h_xVal, h_xType, h_xPlace, h_have, h_exiting, h_running, h_outcome, h_value, h_error, h_datum, h_place, h_beats, h_printed, c_sort, c_op, c_na, c_nb, c_up, c_val, c_size, c_params, c_parent, c_global, c_cells, c_locals, c_has, c_node, c_got, c_handle, c_pTarget, c_pPlace, c_act, c_mode, c_bVar, c_pType, c_v0, c_v1, c_v2, c_last, c_bVal, c_pVal, c_out)) → wY_define_44 post (nI f) p1 h_depth h_fuel h_count h_open h_types h_sp h_ret h_xTarget h_xVal h_xType h_xPlace h_have h_exiting h_running h_outcome h_value h_error h_datum h_place h_beats h_printed c_sort c_op c_na c_nb c_up c_val c_size c_params c_parent c_global c_cells c_locals c_has c_node c_got c_handle c_pTarget c_pPlace c_act c_mode c_bVar c_pType c_v0 c_v1 c_v2 c_last c_bVal c_pVal c_out n (nI s) (nI t)
  | _, _, _, 0, _, h, _, _, _ => by omega
  | 0, t, s, n + 1, ht, _, hb, h1, h2 => by
    refine br_t (nI_le (a := 6) (by omega) (by omega)) (pk_le s 200 (fun z => ?_) (fun z => h2 z))
    refine ⟨vp_in_nI (by omega) (by decide), nm_e ⟨vp_in_nI (by omega) (by decide), nm_e ⟨cnt + 1, ?_⟩⟩⟩
    rw [nI_clamp (by omega), hs]
    have := yl_def102 (post := post) (h_count := nI cnt) (h_open := h_open) (c_size := upd c_size f (nI cnt)) (c_params := upd c_params f p1) hf hc rfl b1 b2 b3 b4 b5 (h1 z) cnt 0 (cnt + 1) (by omega) (by omega)
    rw [fo_cp_0, fo_cp_0, fo_cp_0, fo_cp_0, fo_cp_0, fo_cp_0] at this
    exact this
  | d + 1, t, s, n + 1, ht, hn, hb, h1, h2 => by
    refine br_f (nI_ge (b := 6) (by omega) (by decide)) ?_
    have g1 : s + ((if t = f then 0 else C t) + fo_tot C f d (t + 1)) ≤ 200 → _ := h1
    have g2 : 200 < s + ((if t = f then 0 else C t) + fo_tot C f d (t + 1)) → _ := h2
    refine pk_eq t f (fun z => ?_) (fun z => ?_)
    · rw [if_pos z, Nat.zero_add] at g1 g2
      exact nm_r (nI_1 t) (yl_def44 hf hc hs b1 b2 b3 b4 b5 hC d (t + 1) s n (by omega) (by omega) (by omega) g1 g2)
    · rw [if_neg z, ← Nat.add_assoc] at g1 g2
      refine ⟨vp_in_nI (by omega) (by decide), ?_⟩
      rw [nI_clamp (by omega), (hC t (by omega)).1]
      have := (hC t (by omega)).2
      exact nm_r (nI_add _ _) (nm_r (nI_1 t) (yl_def44 hf hc hs b1 b2 b3 b4 b5 hC d (t + 1) (s + C t) n (by omega) (by omega) (by omega) g1 g2))
end
theorem i_vc_define {k : Nat} {u : SX} {v : SY} (I : i_Rel k u v) (hk : k + 4 ≤ 2050) (v1 : Int32) (v2 : Int32) : wpX_define (fun r u' => wpY_define (fun r' v' => r' = r ∧ i_Rel (k + 4) u' v') v v1 v2) u v1 v2 := by
  obtain ⟨f_openCount, f_typeCount, f_printedCount, f_depthLimit, f_fuelLimit, f_lastStatus, f_lastValue, f_lastError, f_lastDatum, f_lastPlace, f_beatsUsed, f_frameCount, f_mode, f_currentNode, f_currentEnv, f_result, f_calls, f_inForce, f_exitTarget, f_exitValue, f_exitType, f_exitPlace, a_nodeOp, a_nodeA, a_nodeB, a_nodeParts, a_nodeSize, a_slotSize, a_slotParams, a_openLists, a_typeParent, a_elements, a_locals, a_specialValue, a_specialHas, a_printed, a_frames⟩ := u
  obtain ⟨h_depth, h_fuel, h_count, h_open, h_types, h_sp, h_ret, h_xTarget, h_xVal, h_xType, h_xPlace, h_have, h_exiting, h_running, h_outcome, h_value, h_error, h_datum, h_place, h_beats, h_printed, c_sort, c_op, c_na, c_nb, c_up, c_val, c_size, c_params, c_parent, c_global, c_cells, c_locals, c_has, c_node, c_got, c_handle, c_pTarget, c_pPlace, c_act, c_mode, c_bVar, c_pType, c_v0, c_v1, c_v2, c_last, c_bVal, c_pVal, c_out⟩ := v
  have I' := I
  obtain ⟨T, d, F, R1, R2, R3, R4, R5, R6, P, Z, O, A, C, ps, os, F1, F2, F3, F4, F5, F6, F7, F8, F9, F10, F11⟩ := I'
  have hc := F2.1
  subst F6 F7 F9
  unfold wpX_define
  dsimp only
  cases os with
  | cons o r =>
    obtain ⟨o1, _⟩ := F2.2.1.2.2 o (List.mem_cons_self ..)
    have hl : r.length + 1 ≤ 12 := F4
    have eo : nI (fo_q (o :: r)) - 1 = nI o := nI_pred o
    refine br_f (nI_ne0 (Nat.succ_pos _) (by simp only [List.length_cons]; omega)) (br_t rfl ?_)
    refine br_f (nI_ne0 (by omega) (by omega)) (br_f ?_ ⟨rfl, I⟩)
    rw [eo]; exact nI_pos (by omega)
  | nil =>
    refine br_t rfl ?_
    rw [F8]
    have hop : nI (fo_q []) - 1 < 0 := by decide
    refine pk_le (C 6) 0 (fun z => ?_) (fun z => ?_)
    · have e : nI (C 6) = 0 := by rw [Nat.le_zero.mp z]; rfl
      exact br_t rfl (br_t e ⟨rfl, I⟩)
    · have hc0 : ¬ nI (C 6) = 0 := nI_ne0 z (by omega)
      refine br_f (by decide) ?_
      by_cases a1 : v1 < 0
      · exact br_t a1 (br_t rfl (br_f hc0 (br_t hop (br_t a1 ⟨rfl, I⟩))))
      · refine br_f a1 ?_
        by_cases a2 : (6 : Int32) ≤ v1
        · have a3 : (5 : Int32) < v1 := Int32.lt_of_lt_of_le (by decide) a2
          exact br_t a2 (br_t rfl (br_f hc0 (br_t hop (br_f a1 (br_t a3 ⟨rfl, I⟩)))))
        · obtain ⟨f, hf, rfl⟩ := fb_lt 0 6 a1 a2 (by decide) (by decide)
          rw [Nat.zero_add] at *
          have a3 : ¬ (5 : Int32) < nI f := nI_nlt (b := f) (a := 5) (by omega) (by decide)
          refine br_f a2 (br_f (by decide) ?_)
          by_cases b1 : v2 < 0
          · exact br_t b1 (br_f hc0 (br_t hop (br_f a1 (br_f a3 (br_t b1 ⟨rfl, I⟩)))))
          · refine br_f b1 ?_
            by_cases b2 : v2 ≤ 3
            · obtain ⟨m, hm, rfl⟩ := nI_of2 (M := 3) (n := 3) (by decide) b1 b2
              refine br_t b2 (nm_e ⟨7, ?_⟩)
              have hX : ∀ s, s < 6 → a_slotSize s = nI (C s) ∧ C s ≤ 56 := fun s hs => ⟨(F1 s hs).2.1, (F1 s hs).1.1⟩
              have hY : ∀ s, s < 6 → c_size s = nI (C s) ∧ C s ≤ 56 := fun s hs => ⟨(F1 s hs).2.2.1, (F1 s hs).1.1⟩
              obtain ⟨f1, f2, f3, f4, f5⟩ := F11
              refine xl_def40 (C := C) hf hc F8 hX 6 0 (C 6) 7 (by omega) (by omega) (by omega) (fun z1 => ?_) (fun z1 => ?_)
              · refine br_f hc0 (br_t hop (br_f a1 (br_f a3 (br_f b1 (br_t b2 ⟨7, ?_⟩)))))
                refine yl_def44 (C := C) hf hc rfl f1 f2 f3 f4 f5 hY 6 0 (C 6) 7 (by omega) (by omega) (by omega) (fun _ => ?_) (fun z2 => by omega)
                refine ⟨rfl, T, d, F, R1, R2, R3, R4, R5, R6, fo_cp P f (C 6), fo_cp Z f (C 6), fo_cp O f (C 6), fo_cp A f (C 6), fo_up (fo_up C f (C 6)) 6 0, fo_up ps f m, [], fun s hs => ?_, ?_, trivial, by decide, trivial, rfl, rfl, ?_, ?_, fun o h => (by cases h), fo_cp_Fb f1, fo_cp_Fb f2, fo_cp_Fb f3, fo_cp_Fb f4, fo_cp_Fb f5⟩
                · rw [fo_un (by omega), pk_un (by omega)]
                  by_cases e : s = f
                  · subst e
                    rw [fo_us, pk_us, pk_us, pk_us, pk_us, fo_us]
                    refine ⟨fo_Slot_keep (b := 336) F2 (fun i hi => ⟨fo_cp_in hi, fo_cp_in hi, fo_cp_in hi, fo_cp_in hi, fo_cp_in hi, fo_cp_in hi, fo_cp_in hi, fo_cp_in hi, fo_cp_in hi, fo_cp_in hi, fo_cp_in hi⟩) (fun i hi => ⟨fo_cp_in hi, fo_cp_in hi, fo_cp_in hi, fo_cp_in hi⟩), rfl, rfl, rfl, rfl, hm⟩
                  · rw [fo_un e, pk_un e, pk_un e, pk_un e, pk_un e, fo_un e]
                    obtain ⟨H1, H2⟩ := F1 s hs
                    have hcs := H1.1
                    refine ⟨fo_Slot_keep H1 (fun i hi => ?_) (fun i hi => ?_), H2⟩
                    · have w : ¬ (56 * f ≤ 56 * s + i ∧ 56 * s + i < 56 * f + C 6) := by omega
                      exact ⟨fo_cp_out w, fo_cp_out w, fo_cp_out w, fo_cp_out w, fo_cp_out w, fo_cp_out w, fo_cp_out w, fo_cp_out w, fo_cp_out w, fo_cp_out w, fo_cp_out w⟩
                    · have w : ¬ (56 * f ≤ 56 * s + i ∧ 56 * s + i < 56 * f + C 6) := by omega
                      exact ⟨fo_cp_out w, fo_cp_out w, fo_cp_out w, fo_cp_out w⟩
                · rw [fo_us]
                  exact ⟨by decide, ⟨fun i h => absurd h (Nat.not_lt_zero _), fun i h => absurd h (Nat.not_lt_zero _), fun i h => by cases h⟩, fun i h => absurd h (Nat.not_lt_zero _), fun i h => absurd h (Nat.not_lt_zero _)⟩
                · rw [pk_us, fo_us]; rfl
                · rw [fo_us]; rfl
              · refine br_f hc0 (br_t hop (br_f a1 (br_f a3 (br_f b1 (br_t b2 ⟨7, ?_⟩)))))
                exact yl_def44 (C := C) hf hc rfl f1 f2 f3 f4 f5 hY 6 0 (C 6) 7 (by omega) (by omega) (by omega) (fun z2 => by omega) (fun _ => ⟨rfl, I⟩)
            · exact br_f b2 (br_f hc0 (br_t hop (br_f a1 (br_f a3 (br_f b1 (br_f b2 ⟨rfl, I⟩))))))
