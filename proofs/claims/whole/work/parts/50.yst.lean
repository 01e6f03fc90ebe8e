/-! the reference's side: its state while it runs, its frames, the loop of run -/
def y_bv (bv : Nat) : Int32 := if bv = 0 then -1 else nI bv
/-- where the frame below which h frames lie is kept -/
def y_at (r : List Fr) (h : Nat) : Nat := m_yh (r.drop (r.length - h))
def y_tg (tgt : Option Nat) (r : List Fr) : Int32 := match tgt with
  | none => -1
  | some h => nI (y_at r h)
/-- a search's frame, at k -/
def yS (g : mG) (c_node c_got c_handle c_pTarget c_pPlace c_act c_mode c_bVar c_pType c_v0 c_v1 c_v2 c_last c_bVal c_pVal : Nat → Int32) (k nd ty : Nat) (dt go : Int32) : Prop := c_node k = -1 ∧ c_v0 k = nI ty ∧ c_v1 k = dt ∧ c_v2 k = nI nd ∧ c_mode k = (if gO g nd = 20 then 0 else 1) ∧ c_got k = go
/-- a list's frame, at k; b: its binding is there too -/
def yA (g : mG) (c_node c_got c_handle c_pTarget c_pPlace c_act c_mode c_bVar c_pType c_v0 c_v1 c_v2 c_last c_bVal c_pVal : Nat → Int32) (b : Prop) (k : Nat) (f : Fr) (r : List Fr) : Prop := match f with
  | ((nd, ev, ph, rm), (gt, x0, x1, x2), (la, bv, bx, ty), dt, sc, sr, tg, pl) => c_node k = nI nd ∧ c_act k = nI ev ∧ c_got k = nI gt ∧ c_mode k = (if ph = 3 ∨ ph = 5 ∨ ph = 6 then 1 else 0) ∧ (b → c_bVar k = y_bv bv ∧ (bv ≠ 0 → c_bVal k = bx)) ∧
    (ph = 0 ∨ ph = 2 ∨ (ph = 1 ∧ (gO g nd = 13 ∨ gO g nd = 6 ∨ gO g nd = 9)) → 0 < gt → c_v0 k = x0) ∧ (ph = 0 → 1 < gt → c_v1 k = x1) ∧ (ph = 0 → 2 < gt → c_v2 k = x2) ∧
    (ph = 1 → (gO g nd = 7 ∨ gO g nd = 11 ∨ (16 ≤ gO g nd ∧ gO g nd ≤ 18)) ∨ 2 ≤ gt → c_last k = la) ∧ (ph = 1 → gO g nd = 9 ∨ gO g nd = 13 → gt = 1 → la = 0) ∧
    (ph = 3 → c_pVal k = dt ∧ c_pTarget k = y_tg tg r ∧ (tg = none → c_pType k = nI ty ∧ c_pPlace k = pl))
def yF (g : mG) (c_node c_got c_handle c_pTarget c_pPlace c_act c_mode c_bVar c_pType c_v0 c_v1 c_v2 c_last c_bVal c_pVal : Nat → Int32) (f : Fr) (r : List Fr) : Prop :=
  if fr_ph f = 7 then c_bVar (m_yh r - 1) = y_bv (fr_bv f) ∧ (fr_bv f ≠ 0 → c_bVal (m_yh r - 1) = fr_bx f) ∧ ∀ q r', r = q :: r' → c_handle (m_yh r - 1) = nI (y_at r' (fr_sr q))
  else if fr_ph f = 4 then c_node (m_yh r) = nI (fr_nd f) ∧ c_mode (m_yh r) = 0 ∧ c_bVar (m_yh r) = -1 ∧ yS g c_node c_got c_handle c_pTarget c_pPlace c_act c_mode c_bVar c_pType c_v0 c_v1 c_v2 c_last c_bVal c_pVal (m_yh r + 1) (fr_nd f) (fr_ty f) (fr_dt f) (if fr_sr f = r.length then nI (m_yh r) else nI (y_at r (fr_sr f)) - 1)
  else if fr_ph f = 8 then yS g c_node c_got c_handle c_pTarget c_pPlace c_act c_mode c_bVar c_pType c_v0 c_v1 c_v2 c_last c_bVal c_pVal (m_yh r) (fr_nd f) (fr_ty f) (fr_dt f) (nI (y_at r (fr_sr f)) - 1)
  else yA g c_node c_got c_handle c_pTarget c_pPlace c_act c_mode c_bVar c_pType c_v0 c_v1 c_v2 c_last c_bVal c_pVal True (m_yh r) f r
def yL (g : mG) (c_node c_got c_handle c_pTarget c_pPlace c_act c_mode c_bVar c_pType c_v0 c_v1 c_v2 c_last c_bVal c_pVal : Nat → Int32) : List Fr → Prop
  | [] => True
  | f :: r => yF g c_node c_got c_handle c_pTarget c_pPlace c_act c_mode c_bVar c_pType c_v0 c_v1 c_v2 c_last c_bVal c_pVal f r ∧ yL g c_node c_got c_handle c_pTarget c_pPlace c_act c_mode c_bVar c_pType c_v0 c_v1 c_v2 c_last c_bVal c_pVal r
def yGl (gv gh : Nat → Int32) (gl : Nat → Option Int32) : Prop := ∀ j, j < 4 → x_sp (gv (8 + j)) (gh (8 + j)) (gl (8 + j))
def yU (g : mG) (h_count h_open h_types : Int32) (c_sort c_op c_na c_nb c_up c_val c_size c_params c_parent : Nat → Int32) (z : Int32 × Int32 × Int32 × Int32 × Int32) (rn : Int32) (be : Nat) (s : St) (sp : Nat) (ret xt xv xy xp ha exi : Int32) (gv gh : Nat → Int32) (c_node c_got c_handle c_pTarget c_pPlace c_act c_mode c_bVar c_pType c_v0 c_v1 c_v2 c_last c_bVal c_pVal : Nat → Int32) : SY := (nI (gD g), nI (gF g), h_count, h_open, h_types, nI sp, ret, xt, xv, xy, xp, ha, exi, rn, z.1, z.2.1, z.2.2.1, z.2.2.2.1, z.2.2.2.2, nI be, nI (sPr s), c_sort, c_op, c_na, c_nb, c_up, c_val, c_size, c_params, c_parent, gv, sCe s, sLo s, gh, c_node, c_got, c_handle, c_pTarget, c_pPlace, c_act, c_mode, c_bVar, c_pType, c_v0, c_v1, c_v2, c_last, c_bVal, c_pVal, sOu s)
def y_z0 (oc : Int32) : Int32 × Int32 × Int32 × Int32 × Int32 := (oc, 0, 0, 0, -1)
def y_z (oc : Int32) (m : MS) : Int32 × Int32 × Int32 × Int32 × Int32 := match m with
  | (0, _) => (oc, 0, 0, 0, -1)
  | (1, _) => (oc, 0, 0, 0, -1)
  | (2, _) => (oc, 0, 0, 0, -1)
  | (3, _) => (oc, 0, 0, 0, -1)
  | m => x_z m
def y_rn : Nat → Int32
  | 0 => 1
  | 1 => 1
  | 2 => 1
  | 3 => 1
  | _ => 0
def y_fw (g : mG) : List Fr → Nat
  | [] => 0
  | f :: _ => if gO g (fr_nd f) = 10 then 1 else 0
def py_R (g : mG) (h_count h_open h_types : Int32) (c_sort c_op c_na c_nb c_up c_val c_size c_params c_parent : Nat → Int32) (m : MS) (u : SY) : Prop := ∃ (oc : Int32) (be sp : Nat) (ret xt xv xy xp ha exi : Int32) (gv gh : Nat → Int32) (c_node c_got c_handle c_pTarget c_pPlace c_act c_mode c_bVar c_pType c_v0 c_v1 c_v2 c_last c_bVal c_pVal : Nat → Int32), yGl gv gh (sGl m.2.2.2.2.2.2) ∧ (m.1 < 4 → sp = m_yh m.2.2.2.2.2.1 ∧ yL g c_node c_got c_handle c_pTarget c_pPlace c_act c_mode c_bVar c_pType c_v0 c_v1 c_v2 c_last c_bVal c_pVal m.2.2.2.2.2.1) ∧
  (m.1 = 0 → ha = 0 ∧ exi = 0 ∧ be + y_fw g m.2.2.2.2.2.1 = sBe m.2.2.2.2.2.2) ∧ (m.1 = 1 → ha = 1 ∧ exi = 0 ∧ ret = m.2.1) ∧ (m.1 = 2 → exi = 0) ∧ (m.1 = 3 → ha = 0 ∧ exi = 1 ∧ xv = m.2.1 ∧ xt = y_tg m.2.2.1 m.2.2.2.2.2.1 ∧ (m.2.2.1 = none → xy = nI m.2.2.2.1 ∧ xp = m.2.2.2.2.1)) ∧ (1 ≤ m.1 → be = sBe m.2.2.2.2.2.2) ∧
  u = yU g h_count h_open h_types c_sort c_op c_na c_nb c_up c_val c_size c_params c_parent (y_z oc m) (y_rn m.1) be m.2.2.2.2.2.2 sp ret xt xv xy xp ha exi gv gh c_node c_got c_handle c_pTarget c_pPlace c_act c_mode c_bVar c_pType c_v0 c_v1 c_v2 c_last c_bVal c_pVal
/-- the program as the reference keeps it -/
def yT (g : mG) (V : Nat → Prop) (h_count h_open h_types : Int32) (c_sort c_op c_na c_nb c_up c_val c_size c_params c_parent : Nat → Int32) : Prop :=
  (∀ n, V n → (gO g n = 27 → c_sort n = 1 ∧ c_val n = gN g n) ∧ (gO g n = 28 → c_sort n = 2 ∧ c_val n = nI (gA g n)) ∧ (gO g n ≤ 26 → c_sort n = 0 ∧ c_op n = nI (gO g n)) ∧ (fo_ma (gO g n) → c_na n = nI (gA g n)) ∧ (16 ≤ gO g n → gO g n ≤ 18 → c_nb n = nI (gB g n))) ∧
  (∀ n, V n → ∀ (h_depth h_fuel h_sp h_ret h_xTarget h_xVal h_xType h_xPlace h_have h_exiting h_running h_outcome h_value h_error h_datum h_place h_beats h_printed : Int32) (c_global c_cells c_locals c_has c_node c_got c_handle c_pTarget c_pPlace c_act c_mode c_bVar c_pType c_v0 c_v1 c_v2 c_last c_bVal c_pVal c_out : Nat → Int32) (post : Int32 → Prop), post (nI (gK g n).length) → wpY_parts post (h_depth, h_fuel, h_count, h_open, h_types, h_sp, h_ret, h_xTarget, h_xVal, h_xType, h_xPlace, h_have, h_exiting, h_running, h_outcome, h_value, h_error, h_datum, h_place, h_beats, h_printed, c_sort, c_op, c_na, c_nb, c_up, c_val, c_size, c_params, c_parent, c_global, c_cells, c_locals, c_has, c_node, c_got, c_handle, c_pTarget, c_pPlace, c_act, c_mode, c_bVar, c_pType, c_v0, c_v1, c_v2, c_last, c_bVal, c_pVal, c_out) (nI n)) ∧
  (∀ n, V n → ∀ j, j < 1000 → ∀ (h_depth h_fuel h_sp h_ret h_xTarget h_xVal h_xType h_xPlace h_have h_exiting h_running h_outcome h_value h_error h_datum h_place h_beats h_printed : Int32) (c_global c_cells c_locals c_has c_node c_got c_handle c_pTarget c_pPlace c_act c_mode c_bVar c_pType c_v0 c_v1 c_v2 c_last c_bVal c_pVal c_out : Nat → Int32) (post : Int32 → Prop), post (fo_nx (gK g n) j) → wpY_part post (h_depth, h_fuel, h_count, h_open, h_types, h_sp, h_ret, h_xTarget, h_xVal, h_xType, h_xPlace, h_have, h_exiting, h_running, h_outcome, h_value, h_error, h_datum, h_place, h_beats, h_printed, c_sort, c_op, c_na, c_nb, c_up, c_val, c_size, c_params, c_parent, c_global, c_cells, c_locals, c_has, c_node, c_got, c_handle, c_pTarget, c_pPlace, c_act, c_mode, c_bVar, c_pType, c_v0, c_v1, c_v2, c_last, c_bVal, c_pVal, c_out) (nI n) (nI j)) ∧
  (∀ n, V n → gO g n = 12 → ∀ (h_depth h_fuel h_sp h_ret h_xTarget h_xVal h_xType h_xPlace h_have h_exiting h_running h_outcome h_value h_error h_datum h_place h_beats h_printed : Int32) (c_global c_cells c_locals c_has c_node c_got c_handle c_pTarget c_pPlace c_act c_mode c_bVar c_pType c_v0 c_v1 c_v2 c_last c_bVal c_pVal c_out : Nat → Int32) (post : Int32 → Prop), post (nI (gR g n)) → wpY_blockAround post (h_depth, h_fuel, h_count, h_open, h_types, h_sp, h_ret, h_xTarget, h_xVal, h_xType, h_xPlace, h_have, h_exiting, h_running, h_outcome, h_value, h_error, h_datum, h_place, h_beats, h_printed, c_sort, c_op, c_na, c_nb, c_up, c_val, c_size, c_params, c_parent, c_global, c_cells, c_locals, c_has, c_node, c_got, c_handle, c_pTarget, c_pPlace, c_act, c_mode, c_bVar, c_pType, c_v0, c_v1, c_v2, c_last, c_bVal, c_pVal, c_out) (nI n) (nI (gA g n))) ∧
  (∀ f, f < 6 → c_size f = nI (gC g f) ∧ gC g f ≤ 56 ∧ c_params f = nI (gP g f)) ∧
  (∃ p : Nat → Nat, (∀ t, t < 16 → c_parent t = nI (p t) ∧ (1 ≤ t → p t < t)) ∧ ∀ t a, t ≤ 15 → gI g t a = fo_ia p 16 t a)
theorem yy_w {k N : Nat} {a : Nat → Int32} {w : Int32} {Q : (Nat → Int32) → Prop} (v : Int32) (hk : k < N) (hv : w = v) (h : Q (upd a k v)) (hN : N < 2 ^ 31 := by decide) : vp_in (nI k) N ∧ ∀ y, y = upd a (nI k).toNatClampNeg w → Q y := by
  subst hv
  rw [nI_clamp (by omega)]
  exact ⟨vp_in_nI hk hN, fun y hy => by rw [hy]; exact h⟩
def yR (post : Int32 → SY → Prop) (N i : Nat) (u : SY) : Prop := match u with
  | (h_depth, h_fuel, h_count, h_open, h_types, h_sp, h_ret, h_xTarget, h_xVal, h_xType, h_xPlace, h_have, h_exiting, h_running, h_outcome, h_value, h_error, h_datum, h_place, h_beats, h_printed, c_sort, c_op, c_na, c_nb, c_up, c_val, c_size, c_params, c_parent, c_global, c_cells, c_locals, c_has, c_node, c_got, c_handle, c_pTarget, c_pPlace, c_act, c_mode, c_bVar, c_pType, c_v0, c_v1, c_v2, c_last, c_bVal, c_pVal, c_out) => wY_run_97 post N (nI i) h_depth h_fuel h_count h_open h_types h_sp h_ret h_xTarget h_xVal h_xType h_xPlace h_have h_exiting h_running h_outcome h_value h_error h_datum h_place h_beats h_printed c_sort c_op c_na c_nb c_up c_val c_size c_params c_parent c_global c_cells c_locals c_has c_node c_got c_handle c_pTarget c_pPlace c_act c_mode c_bVar c_pType c_v0 c_v1 c_v2 c_last c_bVal c_pVal c_out
theorem y_go {post : Int32 → SY → Prop} {N i : Nat} {h_depth h_fuel h_count h_open h_types h_sp h_ret h_xTarget h_xVal h_xType h_xPlace h_have h_exiting h_running h_outcome h_value h_error h_datum h_place h_beats h_printed : Int32} {c_sort c_op c_na c_nb c_up c_val c_size c_params c_parent c_global c_cells c_locals c_has c_node c_got c_handle c_pTarget c_pPlace c_act c_mode c_bVar c_pType c_v0 c_v1 c_v2 c_last c_bVal c_pVal c_out : Nat → Int32} (hi : i < 1000000) (h7 : ¬ h_running = 0) (h : wpY_step (fun u => yR post N (i + 1) u) (h_depth, h_fuel, h_count, h_open, h_types, h_sp, h_ret, h_xTarget, h_xVal, h_xType, h_xPlace, h_have, h_exiting, h_running, h_outcome, h_value, h_error, h_datum, h_place, h_beats, h_printed, c_sort, c_op, c_na, c_nb, c_up, c_val, c_size, c_params, c_parent, c_global, c_cells, c_locals, c_has, c_node, c_got, c_handle, c_pTarget, c_pPlace, c_act, c_mode, c_bVar, c_pType, c_v0, c_v1, c_v2, c_last, c_bVal, c_pVal, c_out)) : yR post (N + 1) i (h_depth, h_fuel, h_count, h_open, h_types, h_sp, h_ret, h_xTarget, h_xVal, h_xType, h_xPlace, h_have, h_exiting, h_running, h_outcome, h_value, h_error, h_datum, h_place, h_beats, h_printed, c_sort, c_op, c_na, c_nb, c_up, c_val, c_size, c_params, c_parent, c_global, c_cells, c_locals, c_has, c_node, c_got, c_handle, c_pTarget, c_pPlace, c_act, c_mode, c_bVar, c_pType, c_v0, c_v1, c_v2, c_last, c_bVal, c_pVal, c_out) := by
  show wY_run_97 post (N + 1) (nI i) h_depth h_fuel h_count h_open h_types h_sp h_ret h_xTarget h_xVal h_xType h_xPlace h_have h_exiting h_running h_outcome h_value h_error h_datum h_place h_beats h_printed c_sort c_op c_na c_nb c_up c_val c_size c_params c_parent c_global c_cells c_locals c_has c_node c_got c_handle c_pTarget c_pPlace c_act c_mode c_bVar c_pType c_v0 c_v1 c_v2 c_last c_bVal c_pVal c_out
  rw [wY_run_97]
  refine br_f (nI_ge (b := 1000000) hi (by decide)) (br_f h7 ?_)
  have e : (fun u : SY => match u with | (h_depth_160, h_fuel_160, h_count_160, h_open_160, h_types_160, h_sp_160, h_ret_160, h_xTarget_160, h_xVal_160, h_xType_160, h_xPlace_160, h_have_160, h_exiting_160, h_running_160, h_outcome_160, h_value_160, h_error_160, h_datum_160, h_place_160, h_beats_160, h_printed_160, c_sort_160, c_op_160, c_na_160, c_nb_160, c_up_160, c_val_160, c_size_160, c_params_160, c_parent_160, c_global_160, c_cells_160, c_locals_160, c_has_160, c_node_160, c_got_160, c_handle_160, c_pTarget_160, c_pPlace_160, c_act_160, c_mode_160, c_bVar_160, c_pType_160, c_v0_160, c_v1_160, c_v2_160, c_last_160, c_bVal_160, c_pVal_160, c_out_160) => ∀ y : Int32, y = nI i + 1 → wY_run_97 post N y h_depth_160 h_fuel_160 h_count_160 h_open_160 h_types_160 h_sp_160 h_ret_160 h_xTarget_160 h_xVal_160 h_xType_160 h_xPlace_160 h_have_160 h_exiting_160 h_running_160 h_outcome_160 h_value_160 h_error_160 h_datum_160 h_place_160 h_beats_160 h_printed_160 c_sort_160 c_op_160 c_na_160 c_nb_160 c_up_160 c_val_160 c_size_160 c_params_160 c_parent_160 c_global_160 c_cells_160 c_locals_160 c_has_160 c_node_160 c_got_160 c_handle_160 c_pTarget_160 c_pPlace_160 c_act_160 c_mode_160 c_bVar_160 c_pType_160 c_v0_160 c_v1_160 c_v2_160 c_last_160 c_bVal_160 c_pVal_160 c_out_160) = fun u => yR post N (i + 1) u := by
    funext u
    obtain ⟨h_depth_160, h_fuel_160, h_count_160, h_open_160, h_types_160, h_sp_160, h_ret_160, h_xTarget_160, h_xVal_160, h_xType_160, h_xPlace_160, h_have_160, h_exiting_160, h_running_160, h_outcome_160, h_value_160, h_error_160, h_datum_160, h_place_160, h_beats_160, h_printed_160, c_sort_160, c_op_160, c_na_160, c_nb_160, c_up_160, c_val_160, c_size_160, c_params_160, c_parent_160, c_global_160, c_cells_160, c_locals_160, c_has_160, c_node_160, c_got_160, c_handle_160, c_pTarget_160, c_pPlace_160, c_act_160, c_mode_160, c_bVar_160, c_pType_160, c_v0_160, c_v1_160, c_v2_160, c_last_160, c_bVal_160, c_pVal_160, c_out_160⟩ := u
    refine propext ⟨fun h => h _ (nI_1 i).symm, fun h y hy => ?_⟩
    rw [hy, nI_1]
    exact h
  exact (congrArg (fun Q => wpY_step Q (h_depth, h_fuel, h_count, h_open, h_types, h_sp, h_ret, h_xTarget, h_xVal, h_xType, h_xPlace, h_have, h_exiting, h_running, h_outcome, h_value, h_error, h_datum, h_place, h_beats, h_printed, c_sort, c_op, c_na, c_nb, c_up, c_val, c_size, c_params, c_parent, c_global, c_cells, c_locals, c_has, c_node, c_got, c_handle, c_pTarget, c_pPlace, c_act, c_mode, c_bVar, c_pType, c_v0, c_v1, c_v2, c_last, c_bVal, c_pVal, c_out)) e).mpr h
theorem y_m1s : vp_nar .short ((-1 : Int32).toInt16.toInt32) = -1 := by decide
theorem y_m1b : vp_nar .byte (-1) = -1 := by decide
theorem y_0s : vp_nar .short 0 = 0 := by decide
theorem y_0b : vp_nar .byte 0 = 0 := by decide
theorem y_1b : vp_nar .byte 1 = 1 := by decide
theorem y_1s : vp_nar .short 1 = 1 := by decide
theorem y_push {h_depth h_fuel h_count h_open h_types h_ret h_xTarget h_xVal h_xType h_xPlace h_have h_exiting h_running h_outcome h_value h_error h_datum h_place h_beats h_printed : Int32} {c_sort c_op c_na c_nb c_up c_val c_size c_params c_parent c_global c_cells c_locals c_has c_node c_got c_handle c_pTarget c_pPlace c_act c_mode c_bVar c_pType c_v0 c_v1 c_v2 c_last c_bVal c_pVal c_out : Nat → Int32} {P : SY → Prop} (k n e : Nat) (hk : k < 520) (hn : n < 392) (he : e ≤ 6) (h : P (h_depth, h_fuel, h_count, h_open, h_types, nI (k + 1), h_ret, h_xTarget, h_xVal, h_xType, h_xPlace, h_have, h_exiting, h_running, h_outcome, h_value, h_error, h_datum, h_place, h_beats, h_printed, c_sort, c_op, c_na, c_nb, c_up, c_val, c_size, c_params, c_parent, c_global, c_cells, c_locals, c_has, upd c_node k (nI n), upd c_got k 0, c_handle, c_pTarget, c_pPlace, upd c_act k (nI e), upd c_mode k 0, upd c_bVar k (-1), c_pType, c_v0, c_v1, c_v2, upd c_last k 0, c_bVal, c_pVal, c_out)) : wpY_push P (h_depth, h_fuel, h_count, h_open, h_types, nI k, h_ret, h_xTarget, h_xVal, h_xType, h_xPlace, h_have, h_exiting, h_running, h_outcome, h_value, h_error, h_datum, h_place, h_beats, h_printed, c_sort, c_op, c_na, c_nb, c_up, c_val, c_size, c_params, c_parent, c_global, c_cells, c_locals, c_has, c_node, c_got, c_handle, c_pTarget, c_pPlace, c_act, c_mode, c_bVar, c_pType, c_v0, c_v1, c_v2, c_last, c_bVal, c_pVal, c_out) (nI n) (nI e) := by
  refine yy_w _ hk (fb_short (by omega)) ?_
  refine yy_w _ hk (fb_byte (by omega)) ?_
  refine yy_w _ hk y_0s ?_
  refine yy_w _ hk y_0b ?_
  refine yy_w _ hk y_m1b ?_
  refine yy_w 0 hk rfl ?_
  exact nm_r (nI_1 k) h
theorem y_pushm {h_depth h_fuel h_count h_open h_types h_ret h_xTarget h_xVal h_xType h_xPlace h_have h_exiting h_running h_outcome h_value h_error h_datum h_place h_beats h_printed : Int32} {c_sort c_op c_na c_nb c_up c_val c_size c_params c_parent c_global c_cells c_locals c_has c_node c_got c_handle c_pTarget c_pPlace c_act c_mode c_bVar c_pType c_v0 c_v1 c_v2 c_last c_bVal c_pVal c_out : Nat → Int32} {P : SY → Prop} (k : Nat) (hk : k < 520) (h : P (h_depth, h_fuel, h_count, h_open, h_types, nI (k + 1), h_ret, h_xTarget, h_xVal, h_xType, h_xPlace, h_have, h_exiting, h_running, h_outcome, h_value, h_error, h_datum, h_place, h_beats, h_printed, c_sort, c_op, c_na, c_nb, c_up, c_val, c_size, c_params, c_parent, c_global, c_cells, c_locals, c_has, upd c_node k (-1), upd c_got k 0, c_handle, c_pTarget, c_pPlace, upd c_act k 0, upd c_mode k 0, upd c_bVar k (-1), c_pType, c_v0, c_v1, c_v2, upd c_last k 0, c_bVal, c_pVal, c_out)) : wpY_push P (h_depth, h_fuel, h_count, h_open, h_types, nI k, h_ret, h_xTarget, h_xVal, h_xType, h_xPlace, h_have, h_exiting, h_running, h_outcome, h_value, h_error, h_datum, h_place, h_beats, h_printed, c_sort, c_op, c_na, c_nb, c_up, c_val, c_size, c_params, c_parent, c_global, c_cells, c_locals, c_has, c_node, c_got, c_handle, c_pTarget, c_pPlace, c_act, c_mode, c_bVar, c_pType, c_v0, c_v1, c_v2, c_last, c_bVal, c_pVal, c_out) (-1) 0 := by
  refine yy_w _ hk y_m1s ?_
  refine yy_w _ hk (fb_byte (n := 0) (by decide)) ?_
  refine yy_w _ hk y_0s ?_
  refine yy_w _ hk y_0b ?_
  refine yy_w _ hk y_m1b ?_
  refine yy_w 0 hk rfl ?_
  exact nm_r (nI_1 k) h
theorem y_gotm {k : Nat} (hk : k < 520) : vp_nar .short ((nI (k + 1) - 2).toInt16.toInt32) = nI k - 1 := by
  have e : nI (k + 1) - 2 = nI k - 1 := by
    rw [← nI_pred k, Int32.sub_sub]; rfl
  rw [e]
  have : ∀ k, k < 520 → vp_nar .short ((nI k - 1).toInt16.toInt32) = nI k - 1 := by decide +kernel
  exact this k hk
theorem y_sm1 {k : Nat} (hk : k < 520) : vp_nar .short ((nI k - 1).toInt16.toInt32) = nI k - 1 := by
  have : ∀ k, k < 520 → vp_nar .short ((nI k - 1).toInt16.toInt32) = nI k - 1 := by decide +kernel
  exact this k hk
theorem y_raise {h_depth h_fuel h_count h_open h_types h_ret h_xTarget h_xVal h_xType h_xPlace h_have h_exiting h_running h_outcome h_value h_error h_datum h_place h_beats h_printed : Int32} {c_sort c_op c_na c_nb c_up c_val c_size c_params c_parent c_global c_cells c_locals c_has c_node c_got c_handle c_pTarget c_pPlace c_act c_mode c_bVar c_pType c_v0 c_v1 c_v2 c_last c_bVal c_pVal c_out : Nat → Int32} {P : SY → Prop} {t d en : Int32} (k n : Nat) (hk : k < 520) (he : en = 0 ∨ en = 1) (h : P (h_depth, h_fuel, h_count, h_open, h_types, nI (k + 1), h_ret, h_xTarget, h_xVal, h_xType, h_xPlace, h_have, h_exiting, h_running, h_outcome, h_value, h_error, h_datum, h_place, h_beats, h_printed, c_sort, c_op, c_na, c_nb, c_up, c_val, c_size, c_params, c_parent, c_global, c_cells, c_locals, c_has, upd c_node k (-1), upd (upd c_got k 0) k (nI k - 1), c_handle, c_pTarget, c_pPlace, upd c_act k 0, upd (upd c_mode k 0) k en, upd c_bVar k (-1), c_pType, upd c_v0 k t, upd c_v1 k d, upd c_v2 k (nI n), upd c_last k 0, c_bVal, c_pVal, c_out)) : wpY_raise P (h_depth, h_fuel, h_count, h_open, h_types, nI k, h_ret, h_xTarget, h_xVal, h_xType, h_xPlace, h_have, h_exiting, h_running, h_outcome, h_value, h_error, h_datum, h_place, h_beats, h_printed, c_sort, c_op, c_na, c_nb, c_up, c_val, c_size, c_params, c_parent, c_global, c_cells, c_locals, c_has, c_node, c_got, c_handle, c_pTarget, c_pPlace, c_act, c_mode, c_bVar, c_pType, c_v0, c_v1, c_v2, c_last, c_bVal, c_pVal, c_out) t d (nI n) en := by
  unfold wpY_raise
  dsimp only
  refine y_pushm k hk ?_
  dsimp only
  rw [nI_pred]
  refine yy_w t hk rfl ?_
  refine yy_w d hk rfl ?_
  refine yy_w _ hk rfl ?_
  rcases he with rfl | rfl
  · refine br_t rfl ?_
    refine yy_w 0 hk (by decide) ?_
    rw [nI_pred]
    exact yy_w _ hk (y_gotm hk) h
  · refine br_f (by decide) ?_
    refine yy_w 1 hk (by decide) ?_
    rw [nI_pred]
    exact yy_w _ hk (y_gotm hk) h
theorem y_done {h_depth h_fuel h_count h_open h_types h_ret h_xTarget h_xVal h_xType h_xPlace h_have h_exiting h_running h_outcome h_value h_error h_datum h_place h_beats h_printed : Int32} {c_sort c_op c_na c_nb c_up c_val c_size c_params c_parent c_global c_cells c_locals c_has c_node c_got c_handle c_pTarget c_pPlace c_act c_mode c_bVar c_pType c_v0 c_v1 c_v2 c_last c_bVal c_pVal c_out : Nat → Int32} {P : SY → Prop} {v : Int32} (k : Nat) (h : P (h_depth, h_fuel, h_count, h_open, h_types, nI k, v, h_xTarget, h_xVal, h_xType, h_xPlace, 1, h_exiting, h_running, h_outcome, h_value, h_error, h_datum, h_place, h_beats, h_printed, c_sort, c_op, c_na, c_nb, c_up, c_val, c_size, c_params, c_parent, c_global, c_cells, c_locals, c_has, c_node, c_got, c_handle, c_pTarget, c_pPlace, c_act, c_mode, c_bVar, c_pType, c_v0, c_v1, c_v2, c_last, c_bVal, c_pVal, c_out)) : wpY_done P (h_depth, h_fuel, h_count, h_open, h_types, nI (k + 1), h_ret, h_xTarget, h_xVal, h_xType, h_xPlace, h_have, h_exiting, h_running, h_outcome, h_value, h_error, h_datum, h_place, h_beats, h_printed, c_sort, c_op, c_na, c_nb, c_up, c_val, c_size, c_params, c_parent, c_global, c_cells, c_locals, c_has, c_node, c_got, c_handle, c_pTarget, c_pPlace, c_act, c_mode, c_bVar, c_pType, c_v0, c_v1, c_v2, c_last, c_bVal, c_pVal, c_out) v := nm_r (nI_pred k) h
theorem y_beat {h_depth h_count h_open h_types h_sp h_ret h_xTarget h_xVal h_xType h_xPlace h_have h_exiting h_running h_outcome h_value h_error h_datum h_place h_printed : Int32} {c_sort c_op c_na c_nb c_up c_val c_size c_params c_parent c_global c_cells c_locals c_has c_node c_got c_handle c_pTarget c_pPlace c_act c_mode c_bVar c_pType c_v0 c_v1 c_v2 c_last c_bVal c_pVal c_out : Nat → Int32} {P : Int32 → SY → Prop} {be F : Nat} (hbe : be ≤ F) (hF : F ≤ 200) (h1 : be < F → P 1 (h_depth, nI F, h_count, h_open, h_types, h_sp, h_ret, h_xTarget, h_xVal, h_xType, h_xPlace, h_have, h_exiting, h_running, h_outcome, h_value, h_error, h_datum, h_place, nI (be + 1), h_printed, c_sort, c_op, c_na, c_nb, c_up, c_val, c_size, c_params, c_parent, c_global, c_cells, c_locals, c_has, c_node, c_got, c_handle, c_pTarget, c_pPlace, c_act, c_mode, c_bVar, c_pType, c_v0, c_v1, c_v2, c_last, c_bVal, c_pVal, c_out)) (h2 : F ≤ be → P 0 (h_depth, nI F, h_count, h_open, h_types, h_sp, h_ret, h_xTarget, h_xVal, h_xType, h_xPlace, h_have, h_exiting, 0, 2, h_value, h_error, h_datum, h_place, nI be, h_printed, c_sort, c_op, c_na, c_nb, c_up, c_val, c_size, c_params, c_parent, c_global, c_cells, c_locals, c_has, c_node, c_got, c_handle, c_pTarget, c_pPlace, c_act, c_mode, c_bVar, c_pType, c_v0, c_v1, c_v2, c_last, c_bVal, c_pVal, c_out)) : wpY_beat P (h_depth, nI F, h_count, h_open, h_types, h_sp, h_ret, h_xTarget, h_xVal, h_xType, h_xPlace, h_have, h_exiting, h_running, h_outcome, h_value, h_error, h_datum, h_place, nI be, h_printed, c_sort, c_op, c_na, c_nb, c_up, c_val, c_size, c_params, c_parent, c_global, c_cells, c_locals, c_has, c_node, c_got, c_handle, c_pTarget, c_pPlace, c_act, c_mode, c_bVar, c_pType, c_v0, c_v1, c_v2, c_last, c_bVal, c_pVal, c_out) := by
  refine fb_if (nI_eq (by omega) (by omega)) (fun e => h2 (by omega)) (fun e => nm_r (nI_1 be) (h1 (by omega)))
theorem y_isa5 {h_depth h_fuel h_count h_open h_types h_sp h_ret h_xTarget h_xVal h_xType h_xPlace h_have h_exiting h_running h_outcome h_value h_error h_datum h_place h_beats h_printed : Int32} {c_sort c_op c_na c_nb c_up c_val c_size c_params c_parent c_global c_cells c_locals c_has c_node c_got c_handle c_pTarget c_pPlace c_act c_mode c_bVar c_pType c_v0 c_v1 c_v2 c_last c_bVal c_pVal c_out : Nat → Int32} {Q : Int32 → Prop} {pt : Nat → Nat} (hp : ∀ t, t < 16 → c_parent t = nI (pt t) ∧ (1 ≤ t → pt t < t)) (a : Nat) (ha : 1 ≤ a) (ha2 : a ≤ 15) : ∀ (k t i n : Nat), i + k = 16 → t + i ≤ 15 → k < n → Q (if fo_ia pt k t a = true then 1 else 0) → wY_isA_5 Q (nI a) h_depth h_fuel h_count h_open h_types h_sp h_ret h_xTarget h_xVal h_xType h_xPlace h_have h_exiting h_running h_outcome h_value h_error h_datum h_place h_beats h_printed c_sort c_op c_na c_nb c_up c_val c_size c_params c_parent c_global c_cells c_locals c_has c_node c_got c_handle c_pTarget c_pPlace c_act c_mode c_bVar c_pType c_v0 c_v1 c_v2 c_last c_bVal c_pVal c_out n (nI t) (nI i)
  | _, _, _, 0, _, _, hn, _ => by omega
  | 0, t, i, n + 1, hk, ht, hn, h => by omega
  | k + 1, t, i, n + 1, hk, ht, hn, h => by
    have e : fo_ia pt (k + 1) t a = if t = a then true else if t ≤ a then false else fo_ia pt k (pt t) a := rfl
    rw [e] at h
    rw [wY_isA_5]
    refine br_f (nI_ge (b := 16) (by omega) (by decide)) ?_
    refine fb_if (nI_leI (b := 0) (by omega) (by decide)) (fun z => ?_) (fun z => ?_)
    · rw [if_neg (show ¬ t = a by omega), if_pos (show t ≤ a by omega), if_neg (by decide)] at h
      exact h
    · obtain ⟨p1, p2⟩ := hp t (by omega)
      have p3 := p2 (by omega)
      refine fb_if (nI_eq (by omega) (by omega)) (fun y => ?_) (fun y => ?_)
      · rw [if_pos y, if_pos rfl] at h
        exact h
      · rw [if_neg y] at h
        refine xx_n (by omega) ?_
        rw [p1]
        refine nm_r (nI_1 i) (y_isa5 hp a ha ha2 k (pt t) (i + 1) n (by omega) (by omega) (by omega) ?_)
        by_cases z2 : t ≤ a
        · rw [if_pos z2, if_neg (by decide)] at h
          have : fo_ia pt k (pt t) a = false := by
            cases k with
            | zero => rfl
            | succ k => exact (if_neg (by omega)).trans (if_pos (by omega))
          rw [this, if_neg (by decide)]
          exact h
        · rw [if_neg z2] at h
          exact h
