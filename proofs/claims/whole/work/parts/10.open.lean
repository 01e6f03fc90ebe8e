/-! open -/
def fo_RG (lo hi : Nat) (x : Int32) : Prop := ∃ a, lo ≤ a ∧ a < hi ∧ x = nI a
theorem fb_rg (x : Int32) (lo hi : Nat) (h : lo ≤ hi) (hh : hi < 2 ^ 31) {A B : Prop} (f : fo_RG lo hi x → A) (g : ¬ fo_RG lo hi x → B) : (x < nI lo → B) ∧ (¬ x < nI lo → ((nI hi ≤ x → B) ∧ (¬ nI hi ≤ x → A))) := by
  by_cases a1 : x < nI lo
  · refine br_t a1 (g ?_)
    rintro ⟨a, h1, h2, rfl⟩
    exact nI_nlt h1 (by omega) a1
  · refine br_f a1 ?_
    by_cases a2 : nI hi ≤ x
    · refine br_t a2 (g ?_)
      rintro ⟨a, h1, h2, rfl⟩
      exact nI_ge h2 hh a2
    · obtain ⟨j, hj, e⟩ := fb_lt lo hi a1 a2 hh h
      exact br_f a2 (f ⟨lo + j, by omega, by omega, e⟩)
theorem fb_rg' (x : Int32) (lo hi : Nat) (h : lo ≤ hi + 1) (hh : hi + 1 < 2 ^ 31) {A B : Prop} (f : fo_RG lo (hi + 1) x → A) (g : ¬ fo_RG lo (hi + 1) x → B) : (x < nI lo → B) ∧ (¬ x < nI lo → ((nI hi < x → B) ∧ (¬ nI hi < x → A))) := by
  obtain ⟨k1, k2⟩ := fb_rg x lo (hi + 1) h hh f g
  refine ⟨k1, fun z => ?_⟩
  by_cases a2 : nI hi < x
  · refine br_t a2 (g ?_)
    rintro ⟨a, h1, h2, rfl⟩
    exact nI_nlt (a := hi) (b := a) (by omega) (by omega) a2
  · refine br_f a2 ((k2 z).2 (fun w => a2 (Int32.lt_of_lt_of_le (nI_lt (Nat.lt_succ_self _) hh) w)))
def fo_fit (T : Nat) (O A : Nat → Nat) (os : List Nat) (o : Nat) (p1 p2 : Int32) : Prop :=
  if o = 8 then fo_RG 0 12 p1 else if o = 9 ∨ o = 26 then fo_RG 8 12 p1 else if o = 11 ∨ o = 19 then fo_RG 0 8 p1 else if o = 12 then ∃ a t, a < 8 ∧ p1 = nI a ∧ fo_fd O A a os = some t else if o = 16 ∨ o = 17 then fo_RG 1 (T + 1) p1 ∧ fo_RG 0 12 p2 else if o = 18 then fo_RG 0 8 p1 ∧ fo_RG 0 12 p2 else if o = 20 ∨ o = 21 then fo_RG 1 (T + 1) p1 else if o = 23 then fo_RG 0 6 p1 else if o = 24 ∨ o = 25 then fo_RG 0 4 p1 else True
theorem fo_lab (p1 : Int32) : ∃ lab, (∀ a, a < 8 → (nI a = p1 ↔ a = lab)) ∧ (lab < 8 → p1 = nI lab) := by
  by_cases h : fo_RG 0 8 p1
  · obtain ⟨a, _, h2, rfl⟩ := h
    exact ⟨a, fun b hb => nI_eq (by omega) (by omega), fun _ => rfl⟩
  · exact ⟨8, fun a ha => ⟨fun e => absurd ⟨a, Nat.zero_le _, ha, e.symm⟩ h, fun e => by omega⟩, fun e => by omega⟩
section
variable {f_openCount f_typeCount f_printedCount f_depthLimit f_fuelLimit f_lastStatus f_lastValue f_lastError f_lastDatum f_lastPlace f_beatsUsed f_frameCount f_mode f_currentNode f_currentEnv f_result f_calls f_inForce f_exitTarget f_exitValue f_exitType f_exitPlace : Int32} {a_nodeOp a_nodeA a_nodeB a_nodeParts a_nodeSize a_slotSize a_slotParams a_openLists a_typeParent a_elements a_locals a_specialValue a_specialHas a_printed a_frames : Nat → Int32} {h_depth h_fuel h_count h_open h_types h_sp h_ret h_xTarget h_xVal h_xType h_xPlace h_have h_exiting h_running h_outcome h_value h_error h_datum h_place h_beats h_printed : Int32} {c_sort c_op c_na c_nb c_up c_val c_size c_params c_parent c_global c_cells c_locals c_has c_node c_got c_handle c_pTarget c_pPlace c_act c_mode c_bVar c_pType c_v0 c_v1 c_v2 c_last c_bVal c_pVal c_out : Nat → Int32}
theorem xl_ba7 {post : Int32 → Prop} {O A : Nat → Nat} {p1 : Int32} {lab : Nat} : ∀ (os : List Nat) (n : Nat), os.length < n → os.length ≤ 12 → fo_OL a_openLists os → (∀ o, o ∈ os → o < 56 ∧ a_nodeOp (336 + o) = nI (O (336 + o)) ∧ O (336 + o) ≤ 28 ∧ (O (336 + o) = 11 → (a_nodeA (336 + o) = p1 ↔ A (336 + o) = lab))) → (∀ t, fo_fd O A lab os = some t → post (nI (336 + t))) → (fo_fd O A lab os = none → post (-1)) → wX_blockAround_7 post p1 f_openCount f_typeCount f_printedCount f_depthLimit f_fuelLimit f_lastStatus f_lastValue f_lastError f_lastDatum f_lastPlace f_beatsUsed f_frameCount f_mode f_currentNode f_currentEnv f_result f_calls f_inForce f_exitTarget f_exitValue f_exitType f_exitPlace a_nodeOp a_nodeA a_nodeB a_nodeParts a_nodeSize a_slotSize a_slotParams a_openLists a_typeParent a_elements a_locals a_specialValue a_specialHas a_printed a_frames n (nI os.length - 1)
  | _, 0, h, _, _, _, _, _ => by omega
  | [], n + 1, _, _, _, _, _, h0 => br_t (by decide) (h0 rfl)
  | o :: r, n + 1, hn, hl, hol, hN, h1, h0 => by
    have hn : r.length + 1 < n + 1 := hn
    have hl : r.length + 1 ≤ 12 := hl
    obtain ⟨o1, o2, o3, o4⟩ := hN o (List.mem_cons_self ..)
    have h1 : ∀ t, (if O (336 + o) = 11 ∧ A (336 + o) = lab then some o else fo_fd O A lab r) = some t → post (nI (336 + t)) := h1
    have h0 : (if O (336 + o) = 11 ∧ A (336 + o) = lab then some o else fo_fd O A lab r) = none → post (-1) := h0
    have el : nI (o :: r).length - 1 = nI r.length := nI_pred r.length
    rw [el]
    have em : nI r.length + (-1) = nI r.length - 1 := by rw [Int32.sub_eq_add_neg]
    refine br_f (nI_pos (by omega)) ⟨vp_in_nI (by omega) (by decide), ?_⟩
    rw [nI_clamp (by omega), hol.1]
    refine nm_e ?_
    rw [nI_clamp (by omega)]
    refine ⟨vp_in_nI (by omega) (by decide), ?_⟩
    rw [o2]
    refine pk_eq (O (336 + o)) 11 (fun z => ?_) (fun z => ?_)
    · refine ⟨vp_in_nI (by omega) (by decide), fb_if (o4 z) (fun w => ?_) (fun w => nm_r em ?_)⟩
      · exact h1 o (if_pos ⟨z, w⟩)
      · rw [if_neg (fun q => w q.2)] at h1 h0
        exact xl_ba7 r n (by omega) (by omega) hol.2 (fun q hq => hN q (List.mem_cons_of_mem _ hq)) h1 h0
    · refine nm_r em ?_
      rw [if_neg (fun q => z q.1)] at h1 h0
      exact xl_ba7 r n (by omega) (by omega) hol.2 (fun q hq => hN q (List.mem_cons_of_mem _ hq)) h1 h0
theorem yl_ba5 {post : Int32 → Prop} {P O A : Nat → Nat} {p1 : Int32} {b lab s : Nat} (hs : b = 56 * s) (hb : b + 56 ≤ 392) : ∀ (f p c n : Nat), c + f = 14 → f < n → p ≤ 56 → (∀ i, i < p → c_up (b + i) = nI (P (b + i)) - 1 ∧ P (b + i) ≤ i ∧ (O (b + i) ≤ 26 → c_op (b + i) = nI (O (b + i)) ∧ (O (b + i) = 11 → (c_na (b + i) = p1 ↔ A (b + i) = lab)))) → (∀ i, i + 1 = p → O (b + i) ≤ 26) → (∀ i, i < p → ∀ j, j + 1 = P (b + i) → O (b + j) ≤ 26) → (∀ t, fo_ba P O A b lab f p = some t → post (nI (b + t))) → (fo_ba P O A b lab f p = none → post (-1)) → wY_blockAround_5 post p1 h_depth h_fuel h_count h_open h_types h_sp h_ret h_xTarget h_xVal h_xType h_xPlace h_have h_exiting h_running h_outcome h_value h_error h_datum h_place h_beats h_printed c_sort c_op c_na c_nb c_up c_val c_size c_params c_parent c_global c_cells c_locals c_has c_node c_got c_handle c_pTarget c_pPlace c_act c_mode c_bVar c_pType c_v0 c_v1 c_v2 c_last c_bVal c_pVal c_out n (if p = 0 then -1 else nI (b + (p - 1))) (nI c)
  | _, _, _, 0, _, h, _, _, _, _, _, _ => by omega
  | 0, p, c, n + 1, hc, _, _, _, _, _, _, h0 => by
    have e : c = 14 := by omega
    subst e
    exact br_t (by decide) (h0 rfl)
  | f + 1, 0, c, n + 1, hc, hn, _, _, _, _, _, h0 => by
    rw [if_pos rfl]
    exact br_f (nI_ge (b := 14) (by omega) (by decide)) (br_t (by decide) (h0 rfl))
  | f + 1, i + 1, c, n + 1, hc, hn, hp, hN, hO, hPO, h1, h0 => by
    obtain ⟨u1, u2, u3⟩ := hN i (by omega)
    have hOi := hO i rfl
    obtain ⟨u4, u5⟩ := u3 hOi
    have h1 : ∀ t, (if O (b + i) = 11 ∧ A (b + i) = lab then some i else fo_ba P O A b lab f (P (b + i))) = some t → post (nI (b + t)) := h1
    have h0 : (if O (b + i) = 11 ∧ A (b + i) = lab then some i else fo_ba P O A b lab f (P (b + i))) = none → post (-1) := h0
    rw [if_neg (Nat.succ_ne_zero i), Nat.add_sub_cancel]
    have go : ¬ (O (b + i) = 11 ∧ A (b + i) = lab) → wY_blockAround_39 post (wY_blockAround_5 post p1 h_depth h_fuel h_count h_open h_types h_sp h_ret h_xTarget h_xVal h_xType h_xPlace h_have h_exiting h_running h_outcome h_value h_error h_datum h_place h_beats h_printed c_sort c_op c_na c_nb c_up c_val c_size c_params c_parent c_global c_cells c_locals c_has c_node c_got c_handle c_pTarget c_pPlace c_act c_mode c_bVar c_pType c_v0 c_v1 c_v2 c_last c_bVal c_pVal c_out n) p1 (nI (b + i)) (nI c) h_depth h_fuel h_count h_open h_types h_sp h_ret h_xTarget h_xVal h_xType h_xPlace h_have h_exiting h_running h_outcome h_value h_error h_datum h_place h_beats h_printed c_sort c_op c_na c_nb c_up c_val c_size c_params c_parent c_global c_cells c_locals c_has c_node c_got c_handle c_pTarget c_pPlace c_act c_mode c_bVar c_pType c_v0 c_v1 c_v2 c_last c_bVal c_pVal c_out := by
      intro hno
      rw [if_neg hno] at h1 h0
      have ih := yl_ba5 hs hb f (P (b + i)) (c + 1) n (by omega) (by omega) (by omega) (fun j hj => hN j (by omega)) (fun j hj => hPO i (by omega) j hj) (fun j hj => hPO j (by omega)) h1 h0
      refine ⟨vp_in_nI (by omega) (by decide), ?_⟩
      rw [nI_clamp (by omega), u1]
      refine fb_if (fb_upn (by omega)).2 (fun z => ?_) (fun z => ?_)
      · refine ⟨by decide, vp_in_nI (by omega) (by decide), nm_r (e' := nI (b + (P (b + i) - 1))) ?_ (nm_r (nI_1 c) ?_)⟩
        · rw [(fb_base s hs hb (by omega)).1]
          have : nI (P (b + i)) - 1 = nI (P (b + i) - 1) := pk_sub (b := 1) (by omega)
          rw [this, nI_add]
        · rw [if_neg (by omega)] at ih
          exact ih
      · refine nm_r (nI_1 c) ?_
        rw [if_pos (by omega)] at ih
        exact ih
    refine br_f (nI_ge (b := 14) (by omega) (by decide)) (br_f (nI_pos (by omega)) ⟨vp_in_nI (by omega) (by decide), ?_⟩)
    rw [nI_clamp (by omega), u4]
    refine pk_eq (O (b + i)) 11 (fun z => ?_) (fun z => go (fun w => z w.1))
    refine ⟨vp_in_nI (by omega) (by decide), fb_if (u5 z) (fun w => h1 i (if_pos ⟨z, w⟩)) (fun w => go (fun q => w q.2))⟩
theorem yl_dep {post : Int32 → SY → Prop} {P : Nat → Nat} {x1 x2 x3 : Int32} : ∀ (k c n : Nat) (r : List Nat), c + k = 11 → k < n → fo_Os P r → (∀ o, o ∈ r → o < 56 ∧ c_up (336 + o) = nI (P (336 + o)) - 1) → wY_open_69 post x1 x2 x3 (nI (fo_q (r.drop k)) - 1) h_depth h_fuel h_count h_open h_types h_sp h_ret h_xTarget h_xVal h_xType h_xPlace h_have h_exiting h_running h_outcome h_value h_error h_datum h_place h_beats h_printed c_sort c_op c_na c_nb c_up c_val c_size c_params c_parent c_global c_cells c_locals c_has c_node c_got c_handle c_pTarget c_pPlace c_act c_mode c_bVar c_pType c_v0 c_v1 c_v2 c_last c_bVal c_pVal c_out → wY_open_38 post x1 x2 x3 h_depth h_fuel h_count h_open h_types h_sp h_ret h_xTarget h_xVal h_xType h_xPlace h_have h_exiting h_running h_outcome h_value h_error h_datum h_place h_beats h_printed c_sort c_op c_na c_nb c_up c_val c_size c_params c_parent c_global c_cells c_locals c_has c_node c_got c_handle c_pTarget c_pPlace c_act c_mode c_bVar c_pType c_v0 c_v1 c_v2 c_last c_bVal c_pVal c_out n (nI (fo_q r) - 1) (nI c)
  | _, _, 0, _, _, h, _, _, _ => by omega
  | 0, c, n + 1, r, hc, _, _, _, hp => by
    have e : c = 11 := by omega
    subst e
    exact br_t (by decide) hp
  | k + 1, c, n + 1, [], hc, hn, _, _, hp => br_f (nI_ge (b := 11) (by omega) (by decide)) (br_t (by decide) hp)
  | k + 1, c, n + 1, o :: r, hc, hn, S, hu, hp => by
    obtain ⟨o1, o2⟩ := hu o (List.mem_cons_self ..)
    have e : nI (fo_q (o :: r)) - 1 = nI o := nI_pred o
    have hr : P (336 + o) = fo_q r := by
      cases r with
      | nil => exact S.1
      | cons o' r' => exact S.1.1
    rw [e]
    refine br_f (nI_ge (b := 11) (by omega) (by decide)) (br_f (nI_pos (by omega)) ?_)
    rw [fb_336]
    refine ⟨vp_in_nI (by omega) (by decide), ?_⟩
    rw [nI_clamp (by omega), o2, hr]
    exact nm_e (nm_r (nI_1 c) (yl_dep k (c + 1) n r (by omega) (by omega) S.2 (fun q hq => hu q (List.mem_cons_of_mem _ hq)) hp))
end
