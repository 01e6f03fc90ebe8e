/-! the reference's side: applying a list -/
theorem y_lo_k (L : Nat → Int32) (e k : Nat) (x0 x1 x2 v : Int32) (hk : k < 3) (hv : v = if k = 0 then x0 else if k = 1 then x1 else x2) : upd (x_lo L e k x0 x1 x2 8) (8 * e + k) v = x_lo L e (k + 1) x0 x1 x2 8 := by
  funext j
  by_cases h : j = 8 * e + k
  · rw [h, pk_us, hv]
    unfold x_lo
    rw [if_pos (show 8 * e ≤ 8 * e + k ∧ 8 * e + k < 8 * e + 8 by omega), show 8 * e + k - 8 * e = k from by omega, if_pos (show k < k + 1 by omega)]
  · rw [pk_un h]
    unfold x_lo
    by_cases h2 : 8 * e ≤ j ∧ j < 8 * e + 8
    · rw [if_pos h2, if_pos h2]
      by_cases h3 : j - 8 * e < k
      · rw [if_pos h3, if_pos (show j - 8 * e < k + 1 by omega)]
      · rw [if_neg h3, if_neg (show ¬ j - 8 * e < k + 1 by omega)]
    · rw [if_neg h2, if_neg h2]
section
variable {g : mG} {V : Nat → Prop} {Z : Nat → Nat} {pa : Nat → Option Nat} {T : Nat} {h_count h_open h_types : Int32} {c_sort c_op c_na c_nb c_up c_val c_size c_params c_parent : Nat → Int32} {s : St} {oc ret xt xv xy xp ha exi v : Int32} {be : Nat} {gv gh : Nat → Int32} {c_node c_got c_handle c_pTarget c_pPlace c_act c_mode c_bVar c_pType c_v0 c_v1 c_v2 c_last c_bVal c_pVal : Nat → Int32} {l r : List Fr} {f : Fr} {P : SY → Prop} {post : Int32 → SY → Prop} {N i p q : Nat}
theorem w_48l {f : Fr} {w : Nat} (h : w_lk g w f) (hp : fr_ph f = 4 ∨ fr_ph f = 7 ∨ fr_ph f = 8) : gO g (fr_nd f) ≠ 11 := by
  obtain ⟨⟨nd, ev, ph, rm⟩, ⟨gt, x0, x1, x2⟩, ⟨la, bv, bx, ty⟩, dt, sc, sr, tg, pl⟩ := f
  have hp : ph = 4 ∨ ph = 7 ∨ ph = 8 := hp
  show gO g nd ≠ 11
  rcases h with h | h | h | h | h | h | h | h | h | h <;> omega
theorem w_got13 {f : Fr} {w : Nat} (h : w_lk g w f) (hO : gO g (fr_nd f) = 13) (h4 : fr_ph f ≠ 4) : (0 < fr_gt f ↔ fr_ph f = 1) ∧ fr_gt f ≤ (gK g (fr_nd f)).length := by
  obtain ⟨⟨nd, ev, ph, rm⟩, ⟨gt, x0, x1, x2⟩, ⟨la, bv, bx, ty⟩, dt, sc, sr, tg, pl⟩ := f
  have hO : gO g nd = 13 := hO
  show (0 < gt ↔ ph = 1) ∧ gt ≤ (gK g nd).length
  rcases h with h | h | h | h | h | h | h | h | h | h
  · have := h.2.2.2.2.2.2.2 (by omega)
    omega
  · omega
  · omega
  · have := h.2.2.2.2 (by omega)
    omega
  all_goals omega
theorem w_md18 {f : Fr} {w : Nat} (h : w_lk g w f) (hO : gO g (fr_nd f) = 18) : fr_ph f = 1 ∨ fr_ph f = 5 := by
  obtain ⟨⟨nd, ev, ph, rm⟩, ⟨gt, x0, x1, x2⟩, ⟨la, bv, bx, ty⟩, dt, sc, sr, tg, pl⟩ := f
  have hO : gO g nd = 18 := hO
  show ph = 1 ∨ ph = 5
  rcases h with h | h | h | h | h | h | h | h | h | h <;> omega
theorem w_md23 {f : Fr} {w : Nat} (h : w_lk g w f) (hO : gO g (fr_nd f) = 23) : fr_ph f = 0 ∨ fr_ph f = 4 ∨ fr_ph f = 6 := by
  obtain ⟨⟨nd, ev, ph, rm⟩, ⟨gt, x0, x1, x2⟩, ⟨la, bv, bx, ty⟩, dt, sc, sr, tg, pl⟩ := f
  have hO : gO g nd = 23 := hO
  show ph = 0 ∨ ph = 4 ∨ ph = 6
  rcases h with h | h | h | h | h | h | h | h | h | h <;> omega
theorem w_ph6 {f : Fr} {w : Nat} (h : w_lk g w f) (hp : fr_ph f = 6) : gO g (fr_nd f) = 23 := by
  obtain ⟨⟨nd, ev, ph, rm⟩, ⟨gt, x0, x1, x2⟩, ⟨la, bv, bx, ty⟩, dt, sc, sr, tg, pl⟩ := f
  have hp : ph = 6 := hp
  show gO g nd = 23
  rcases h with h | h | h | h | h | h | h | h | h | h <;> omega
theorem w_lsO {f : Fr} {w : Nat} (h : w_lk g w f) (h8 : fr_ph f ≠ 8) : gO g (fr_nd f) ≤ 26 := by
  obtain ⟨⟨nd, ev, ph, rm⟩, ⟨gt, x0, x1, x2⟩, ⟨la, bv, bx, ty⟩, dt, sc, sr, tg, pl⟩ := f
  have h8 : ph ≠ 8 := h8
  show gO g nd ≤ 26
  rcases h with h | h | h | h | h | h | h | h | h | h <;> omega
theorem y_bn {v : Nat} {x : Int32} : ∀ {r : List Fr}, y_bi v r = none → m_set v x r = none
  | [], _ => rfl
  | f :: r, h => by
    have h : (if fr_bv f = v then some (if fr_ph f = 7 then m_yh r - 1 else m_yh r) else y_bi v r) = none := h
    by_cases e : fr_bv f = v
    · rw [if_pos e] at h; cases h
    · rw [if_neg e] at h
      have ih := y_bn (x := x) h
      obtain ⟨⟨nd, ev, ph, rm⟩, ⟨gt, x0, x1, x2⟩, ⟨la, bv, bx, ty⟩, dt, sc, sr, tg, pl⟩ := f
      have e : bv ≠ v := e
      show (if bv = v then some (((nd, ev, ph, rm), (gt, x0, x1, x2), (la, bv, x, ty), dt, sc, sr, tg, pl) :: r) else match m_set v x r with
        | some r' => some (((nd, ev, ph, rm), (gt, x0, x1, x2), (la, bv, bx, ty), dt, sc, sr, tg, pl) :: r')
        | none => none) = none
      rw [if_neg e, ih]
theorem y_bnn {v : Nat} : ∀ {r : List Fr}, (∀ q, q ∈ r → fr_bv q ≠ v) → y_bi v r = none
  | [], _ => rfl
  | f :: r, h => (if_neg (h f (List.mem_cons_self ..))).trans (y_bnn (fun q hq => h q (List.mem_cons_of_mem _ hq)))
theorem y_nneg {n : Nat} (h : n < 392) : ¬ nI n < 0 := nI_pos (by omega)
theorem y_loc {h_depth h_fuel h_count h_open h_types h_sp h_ret h_xTarget h_xVal h_xType h_xPlace h_have h_exiting h_running h_outcome h_value h_error h_datum h_place h_beats h_printed : Int32} {c_sort c_op c_na c_nb c_up c_val c_size c_params c_parent c_global c_cells c_has c_node c_got c_handle c_pTarget c_pPlace c_act c_mode c_bVar c_pType c_v0 c_v1 c_v2 c_last c_bVal c_pVal c_out : Nat → Int32} {P : SY → Prop} {L : Nat → Int32} {x1 x3 x4 a0 a1 a2 : Int32} (e : Nat) (he : e ≤ 5) (H : wY_call_161 P x1 x3 x4 (nI (8 * e)) h_depth h_fuel h_count h_open h_types h_sp h_ret h_xTarget h_xVal h_xType h_xPlace h_have h_exiting h_running h_outcome h_value h_error h_datum h_place h_beats h_printed 1 8 c_sort c_op c_na c_nb c_up c_val c_size c_params c_parent c_global c_cells (x_lo L e 0 a0 a1 a2 8) c_has c_node c_got c_handle c_pTarget c_pPlace c_act c_mode c_bVar c_pType c_v0 c_v1 c_v2 c_last c_bVal c_pVal c_out) : ∀ (d i n : Nat), i + d = 8 → n = d + 1 → wY_call_161 P x1 x3 x4 (nI (8 * e)) h_depth h_fuel h_count h_open h_types h_sp h_ret h_xTarget h_xVal h_xType h_xPlace h_have h_exiting h_running h_outcome h_value h_error h_datum h_place h_beats h_printed n (nI i) c_sort c_op c_na c_nb c_up c_val c_size c_params c_parent c_global c_cells (x_lo L e 0 a0 a1 a2 i) c_has c_node c_got c_handle c_pTarget c_pPlace c_act c_mode c_bVar c_pType c_v0 c_v1 c_v2 c_last c_bVal c_pVal c_out
  | 0, i, n, hi, hn => by
    subst hn
    have : i = 8 := by omega
    subst this
    exact H
  | d + 1, i, n, hi, hn => by
    subst hn
    rw [wY_call_161]
    refine br_f (nI_ge (b := 8) (by omega) (by decide)) ?_
    rw [nI_add]
    refine ⟨vp_in_nI (by omega) (by decide), ?_⟩
    rw [nI_clamp (by omega)]
    refine nm_r (x_lo_s L e 0 a0 a1 a2 i 0 (by rw [if_neg (by omega)])) (nm_r (nI_1 i) ?_)
    exact y_loc e he H d (i + 1) (d + 1) (by omega) rfl
end
