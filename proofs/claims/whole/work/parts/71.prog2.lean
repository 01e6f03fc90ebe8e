/-! the program of a run, as both sides keep it -/
theorem fo_ma26 {o : Nat} (h : fo_ma o) : o ≤ 26 := by
  unfold fo_ma at h
  omega
section
variable {P Z O A C ps pt : Nat → Nat} {T d F : Nat} {f_openCount f_typeCount : Int32} {a_nodeOp a_nodeA a_nodeB a_nodeParts a_nodeSize a_slotSize a_slotParams a_openLists a_typeParent : Nat → Int32} {h_count h_open h_types : Int32} {c_sort c_op c_na c_nb c_up c_val c_size c_params c_parent : Nat → Int32}
theorem ru_xG (SL : ∀ s, s < 7 → fo_Slot a_nodeOp a_nodeA a_nodeB a_nodeParts a_nodeSize c_sort c_op c_na c_nb c_up c_val P Z O A T (56 * s) (C s) []) (hC : ∀ s, s < 6 → a_slotSize s = nI (C s) ∧ a_slotParams s = nI (ps s)) (hpt : ∀ t, t < 16 → a_typeParent t = nI (pt t) ∧ (1 ≤ t → pt t < t)) : xG (ru_g a_nodeA a_nodeB P O A C (fun a => if a < 6 then ps a else 0) pt d F) (ru_V C) Z f_openCount f_typeCount a_nodeOp a_nodeA a_nodeB a_nodeParts a_nodeSize a_slotSize a_slotParams a_openLists a_typeParent := by
  refine ⟨fun n hn => ?_, fun f hf => ?_, pt, hpt, fun t a _ => rfl⟩
  · obtain ⟨s, i, rfl, hs, hi, h56, e1, e2⟩ := ru_split hn SL
    have lf := fun z => ru_leaf SL hs hi z
    obtain ⟨S1, S2, S3, S4⟩ := SL s hs
    obtain ⟨N, L⟩ := S4 i hi
    obtain ⟨n1, n2, n3, n4, n5, n6, n7, n8⟩ := N
    have eK : gK (ru_g a_nodeA a_nodeB P O A C (fun a => if a < 6 then ps a else 0) pt d F) (56 * s + i) = fo_kids P (56 * s) (C s) i := by
      show fo_kids P (56 * ((56 * s + i) / 56)) (C ((56 * s + i) / 56)) ((56 * s + i) % 56) = _
      rw [e1, e2]
    refine ⟨n1, by rw [eK]; exact n3, S3 i hi (by simp), fun _ => rfl, fun z => ?_, fun z1 z2 => ?_, fun z => ?_, fun z => by rw [eK]; exact lf z⟩
    · rcases z with z | z
      · exact (n6 z).2.2.1
      · exact ((n7 (fo_ma26 z)).2.2.2.1 z).1
    · obtain ⟨w, w1, w2, _⟩ := (n7 (by have z2 : O (56 * s + i) ≤ 18 := z2; omega)).2.2.2.2.1 z1 z2
      show a_nodeB (56 * s + i) = nI (a_nodeB (56 * s + i)).toNatClampNeg
      rw [w2, nI_clamp (by omega)]
    · have z : O (56 * s + i) = 12 := z
      obtain ⟨t, t1, t2, t3⟩ := (n7 (by omega)).2.2.2.2.2 z
      show 56 * s + i - (a_nodeB (56 * s + i)).toNatClampNeg ≤ 56 * s + i ∧ a_nodeB (56 * s + i) = nI (56 * s + i - (56 * s + i - (a_nodeB (56 * s + i)).toNatClampNeg))
      rw [t2, nI_clamp (by omega)]
      exact ⟨by omega, congrArg nI (by omega)⟩
  · refine ⟨(hC f hf).1, (SL f (by omega)).1, ?_⟩
    show a_slotParams f = nI (if f < 6 then ps f else 0)
    rw [if_pos hf]; exact (hC f hf).2
theorem ru_len {h_depth h_fuel h_sp h_ret h_xTarget h_xVal h_xType h_xPlace h_have h_exiting h_running h_outcome h_value h_error h_datum h_place h_beats h_printed : Int32} {c_global c_cells c_locals c_has c_node c_got c_handle c_pTarget c_pPlace c_act c_mode c_bVar c_pType c_v0 c_v1 c_v2 c_last c_bVal c_pVal c_out : Nat → Int32} {s i : Nat} (hs : s < 7) (hi : i < 56) (hC : ∀ s, s < 6 → c_size s = nI (C s)) (h6 : h_count = nI (C 6)) : ∀ q : Int32 → Prop, q (nI (C s)) → wpY_length q (h_depth, h_fuel, h_count, h_open, h_types, h_sp, h_ret, h_xTarget, h_xVal, h_xType, h_xPlace, h_have, h_exiting, h_running, h_outcome, h_value, h_error, h_datum, h_place, h_beats, h_printed, c_sort, c_op, c_na, c_nb, c_up, c_val, c_size, c_params, c_parent, c_global, c_cells, c_locals, c_has, c_node, c_got, c_handle, c_pTarget, c_pPlace, c_act, c_mode, c_bVar, c_pType, c_v0, c_v1, c_v2, c_last, c_bVal, c_pVal, c_out) (nI (56 * s + i)) := by
  intro q hq
  rcases Nat.lt_or_ge s 6 with z | z
  · exact yl_lenS z hi (hC s z) hq
  · have : s = 6 := by omega
    subst this
    exact yl_lenF hi h6 hq
theorem ru_ba2 {h_depth h_fuel h_count h_open h_types h_sp h_ret h_xTarget h_xVal h_xType h_xPlace h_have h_exiting h_running h_outcome h_value h_error h_datum h_place h_beats h_printed : Int32} {c_sort c_op c_na c_nb c_up c_val c_size c_params c_parent c_global c_cells c_locals c_has c_node c_got c_handle c_pTarget c_pPlace c_act c_mode c_bVar c_pType c_v0 c_v1 c_v2 c_last c_bVal c_pVal c_out : Nat → Int32} {post : Int32 → Prop} {s i t : Nat} (hs : s < 7) (h56 : i < 56) (hall : ∀ j, j < i + 1 → c_up (56 * s + j) = nI (P (56 * s + j)) - 1 ∧ P (56 * s + j) ≤ j ∧ (O (56 * s + j) ≤ 26 → c_op (56 * s + j) = nI (O (56 * s + j)) ∧ (O (56 * s + j) = 11 → (c_na (56 * s + j) = nI (A (56 * s + i)) ↔ A (56 * s + j) = A (56 * s + i))))) (ho : O (56 * s + i) ≤ 26) (hpar : ∀ j, j < i + 1 → ∀ q, q + 1 = P (56 * s + j) → O (56 * s + q) ≤ 26) (t3 : fo_ba P O A (56 * s) (A (56 * s + i)) 14 (i + 1) = some t) (hpost : post (nI (56 * s + t))) : wY_blockAround_5 post (nI (A (56 * s + i))) h_depth h_fuel h_count h_open h_types h_sp h_ret h_xTarget h_xVal h_xType h_xPlace h_have h_exiting h_running h_outcome h_value h_error h_datum h_place h_beats h_printed c_sort c_op c_na c_nb c_up c_val c_size c_params c_parent c_global c_cells c_locals c_has c_node c_got c_handle c_pTarget c_pPlace c_act c_mode c_bVar c_pType c_v0 c_v1 c_v2 c_last c_bVal c_pVal c_out 15 (nI (56 * s + i)) 0 := by
  have := yl_ba5 (h_depth := h_depth) (h_fuel := h_fuel) (h_count := h_count) (h_open := h_open) (h_types := h_types) (h_sp := h_sp) (h_ret := h_ret) (h_xTarget := h_xTarget) (h_xVal := h_xVal) (h_xType := h_xType) (h_xPlace := h_xPlace) (h_have := h_have) (h_exiting := h_exiting) (h_running := h_running) (h_outcome := h_outcome) (h_value := h_value) (h_error := h_error) (h_datum := h_datum) (h_place := h_place) (h_beats := h_beats) (h_printed := h_printed) (c_sort := c_sort) (c_nb := c_nb) (c_val := c_val) (c_size := c_size) (c_params := c_params) (c_parent := c_parent) (c_global := c_global) (c_cells := c_cells) (c_locals := c_locals) (c_has := c_has) (c_node := c_node) (c_got := c_got) (c_handle := c_handle) (c_pTarget := c_pTarget) (c_pPlace := c_pPlace) (c_act := c_act) (c_mode := c_mode) (c_bVar := c_bVar) (c_pType := c_pType) (c_v0 := c_v0) (c_v1 := c_v1) (c_v2 := c_v2) (c_last := c_last) (c_bVal := c_bVal) (c_pVal := c_pVal) (c_out := c_out) (post := post) (P := P) (O := O) (A := A) (p1 := nI (A (56 * s + i))) (b := 56 * s) (lab := A (56 * s + i)) (s := s) rfl (by omega) 14 (i + 1) 0 15 (by omega) (by omega) (by omega) hall (fun j hj => by
    have : j = i := by omega
    rw [this]; exact ho) hpar (fun t' ht' => by
    rw [t3] at ht'
    injection ht' with ht'
    rw [← ht']; exact hpost) (fun z => by rw [t3] at z; cases z)
  rw [if_neg (by omega), Nat.add_sub_cancel] at this
  exact this
theorem ru_yT (SL : ∀ s, s < 7 → fo_Slot a_nodeOp a_nodeA a_nodeB a_nodeParts a_nodeSize c_sort c_op c_na c_nb c_up c_val P Z O A T (56 * s) (C s) []) (hC : ∀ s, s < 6 → c_size s = nI (C s) ∧ c_params s = nI (ps s)) (h6 : h_count = nI (C 6)) (hpt : ∀ t, t < 16 → c_parent t = nI (pt t) ∧ (1 ≤ t → pt t < t)) : yT (ru_g a_nodeA a_nodeB P O A C (fun a => if a < 6 then ps a else 0) pt d F) (ru_V C) h_count h_open h_types c_sort c_op c_na c_nb c_up c_val c_size c_params c_parent := by
  have hup : ∀ s, s < 7 → ∀ j, j < C s → c_up (56 * s + j) = nI (P (56 * s + j)) - 1 ∧ P (56 * s + j) ≤ j := by
    intro s hs j hj
    obtain ⟨S1, S2, S3, S4⟩ := SL s hs
    exact ⟨(S4 j hj).1.2.2.2.1, (S2.1 j hj).1⟩
  refine ⟨fun n hn => ?_, fun n hn => ?_, fun n hn => ?_, fun n hn => ?_, fun f hf => ?_, pt, hpt, fun t a _ => rfl⟩
  · obtain ⟨s, i, rfl, hs, hi, h56, e1, e2⟩ := ru_split hn SL
    obtain ⟨S1, S2, S3, S4⟩ := SL s hs
    obtain ⟨N, L⟩ := S4 i hi
    obtain ⟨n1, n2, n3, n4, n5, n6, n7, n8⟩ := N
    refine ⟨fun z => n5 z, fun z => ⟨(n6 z).1, by rw [(n6 z).2.1]; exact (n6 z).2.2.1⟩, fun z => ⟨(n7 z).1, (n7 z).2.1⟩, fun z => ((n7 (fo_ma26 z)).2.2.2.1 z).2, fun z1 z2 => ?_⟩
    obtain ⟨w, w1, w2, w3⟩ := (n7 (by have z2 : O (56 * s + i) ≤ 18 := z2; omega)).2.2.2.2.1 z1 z2
    show c_nb (56 * s + i) = nI (a_nodeB (56 * s + i)).toNatClampNeg
    rw [w2, w3, nI_clamp (by omega)]
  · obtain ⟨s, i, rfl, hs, hi, h56, e1, e2⟩ := ru_split hn SL
    have eK : gK (ru_g a_nodeA a_nodeB P O A C (fun a => if a < 6 then ps a else 0) pt d F) (56 * s + i) = fo_kids P (56 * s) (C s) i := by
      show fo_kids P (56 * ((56 * s + i) / 56)) (C ((56 * s + i) / 56)) ((56 * s + i) % 56) = _
      rw [e1, e2]
    rw [eK]
    intros
    exact yl_parts s rfl (by omega) (SL s hs).1 h56 (hup s hs) (ru_len hs h56 (fun s hs => (hC s hs).1) h6) (by assumption)
  · obtain ⟨s, i, rfl, hs, hi, h56, e1, e2⟩ := ru_split hn SL
    have eK : gK (ru_g a_nodeA a_nodeB P O A C (fun a => if a < 6 then ps a else 0) pt d F) (56 * s + i) = fo_kids P (56 * s) (C s) i := by
      show fo_kids P (56 * ((56 * s + i) / 56)) (C ((56 * s + i) / 56)) ((56 * s + i) % 56) = _
      rw [e1, e2]
    rw [eK]
    intro j hj
    intros
    exact yl_part s rfl (by omega) (SL s hs).1 h56 hj (hup s hs) (ru_len hs h56 (fun s hs => (hC s hs).1) h6) (by assumption)
  · obtain ⟨s, i, rfl, hs, hi, h56, e1, e2⟩ := ru_split hn SL
    intro z
    obtain ⟨S1, S2, S3, S4⟩ := SL s hs
    obtain ⟨N, L⟩ := S4 i hi
    obtain ⟨n1, n2, n3, n4, n5, n6, n7, n8⟩ := N
    have z : O (56 * s + i) = 12 := z
    obtain ⟨t, t1, t2, t3⟩ := (n7 (by omega)).2.2.2.2.2 z
    have hA8 := (n7 (by omega)).2.2.1.2.2.1 (by omega)
    have eR : gR (ru_g a_nodeA a_nodeB P O A C (fun a => if a < 6 then ps a else 0) pt d F) (56 * s + i) = 56 * s + t := by
      show 56 * s + i - (a_nodeB (56 * s + i)).toNatClampNeg = _
      rw [t2, nI_clamp (by omega)]
      omega
    rw [eR]
    have hall : ∀ j, j < i + 1 → c_up (56 * s + j) = nI (P (56 * s + j)) - 1 ∧ P (56 * s + j) ≤ j ∧ (O (56 * s + j) ≤ 26 → c_op (56 * s + j) = nI (O (56 * s + j)) ∧ (O (56 * s + j) = 11 → (c_na (56 * s + j) = nI (A (56 * s + i)) ↔ A (56 * s + j) = A (56 * s + i)))) := by
      intro j hj
      obtain ⟨Nj, _⟩ := S4 j (by omega)
      obtain ⟨m1, m2, m3, m4, m5, m6, m7, m8⟩ := Nj
      refine ⟨m4, (S2.1 j (by omega)).1, fun y => ⟨(m7 y).2.1, fun y2 => ?_⟩⟩
      have hAj := (m7 y).2.2.1.2.2.1 (by omega)
      rw [((m7 y).2.2.2.1 (by unfold fo_ma; omega)).2]
      exact nI_eq (by omega) (by omega)
    intros
    rename_i post hpost
    exact ⟨15, ru_ba2 (t := t) hs (by omega) hall (by omega) (fun j hj q hq => (S4 j (by omega)).1.2.2.2.2.2.2.2 q hq) t3 hpost⟩
  · refine ⟨(hC f hf).1, (SL f (by omega)).1, ?_⟩
    show c_params f = nI (if f < 6 then ps f else 0)
    rw [if_pos hf]; exact (hC f hf).2
end
