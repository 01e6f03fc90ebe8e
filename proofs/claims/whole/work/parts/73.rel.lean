/-! the relation after a run -/
def ru_gl (sv sh : Nat → Int32) (v : Nat) : Option Int32 := if sh (v - 8) = 0 then none else some (sv (v - 8))
theorem ru_sp {sv sh gv gh : Nat → Int32} (h : rl_Sp sv sh gv gh) : xSp sv sh (ru_gl sv sh) [] ∧ yGl gv gh (ru_gl sv sh) := by
  refine ⟨fun j hj => ?_, fun j hj => ?_⟩
  · obtain ⟨h1, h2, h3⟩ := h j hj
    show x_sp (sv j) (sh j) (if sh (8 + j - 8) = 0 then none else some (sv (8 + j - 8)))
    rw [show 8 + j - 8 = j from by omega]
    rcases h1 with z | z
    · rw [if_pos z]; exact z
    · rw [if_neg (by rw [z]; decide)]; exact ⟨z, rfl⟩
  · obtain ⟨h1, h2, h3⟩ := h j hj
    show x_sp (gv (8 + j)) (gh (8 + j)) (if sh (8 + j - 8) = 0 then none else some (sv (8 + j - 8)))
    rw [show 8 + j - 8 = j from by omega]
    rcases h1 with z | z
    · rw [if_pos z]; exact h2.trans z
    · rw [if_neg (by rw [z]; decide)]; exact ⟨h2.trans z, h3 (by rw [z]; decide)⟩
theorem ru_sp2 {sv sh gv gh : Nat → Int32} {gl : Nat → Option Int32} (h1 : xSp sv sh gl []) (h2 : yGl gv gh gl) : rl_Sp sv sh gv gh := by
  intro j hj
  have a : x_sp (sv j) (sh j) (gl (8 + j)) := h1 j hj
  have b : x_sp (gv (8 + j)) (gh (8 + j)) (gl (8 + j)) := h2 j hj
  cases hg : gl (8 + j) with
  | none =>
    rw [hg] at a b
    have a : sh j = 0 := a
    have b : gh (8 + j) = 0 := b
    exact ⟨Or.inl a, b.trans a.symm, fun z => absurd a z⟩
  | some x =>
    rw [hg] at a b
    exact ⟨Or.inr a.1, b.1.trans a.1.symm, fun _ => b.2.trans a.2.symm⟩
section
variable {P Z O A C ps pt : Nat → Nat} {T d F k : Nat} {f_openCount f_typeCount : Int32} {a_nodeOp a_nodeA a_nodeB a_nodeParts a_nodeSize a_slotSize a_slotParams a_openLists a_typeParent : Nat → Int32} {h_count h_open h_types : Int32} {c_sort c_op c_na c_nb c_up c_val c_size c_params c_parent : Nat → Int32} {g : mG} {s : St} {sv sh gv gh fr : Nat → Int32} {ca inf mo cn ce re et ex ey ep ret xt xv xy xp ha exi rn : Int32} {z : Int32 × Int32 × Int32 × Int32 × Int32} {c_node c_got c_handle c_pTarget c_pPlace c_act c_mode c_bVar c_pType c_v0 c_v1 c_v2 c_last c_bVal c_pVal : Nat → Int32} {l : List Nat}
theorem ru_rel (hD : gD g = d ∧ 1 ≤ d ∧ d ≤ 5) (hF : gF g = F ∧ 1 ≤ F ∧ F ≤ 200) (ht : f_typeCount = nI T ∧ h_types = nI T ∧ rl_Ty T a_typeParent ∧ c_parent = a_typeParent) (hce : rl_Ce (sCe s)) (h1 : xSp sv sh (sGl s) []) (h2 : yGl gv gh (sGl s)) (hT : rl_T a_nodeOp a_nodeA a_nodeB a_nodeParts a_nodeSize a_slotSize a_slotParams a_openLists f_openCount c_sort c_op c_na c_nb c_up c_val c_size c_params h_count h_open T) : i_Rel k (xU g 0 f_typeCount a_nodeOp a_nodeA a_nodeB a_nodeParts a_nodeSize (upd a_slotSize 6 0) a_slotParams a_openLists a_typeParent z s 0 ca inf mo cn ce re et ex ey ep sv sh fr) (yU g 0 (-1) h_types c_sort c_op c_na c_nb c_up c_val c_size c_params c_parent z rn (sBe s) s 0 ret xt xv xy xp ha exi gv gh c_node c_got c_handle c_pTarget c_pPlace c_act c_mode c_bVar c_pType c_v0 c_v1 c_v2 c_last c_bVal c_pVal) := by
  obtain ⟨P, Z, O, A, C, ps, os, F1, F2, F3, F4, F5, F6, F7, F8, F9, F10, F11⟩ := hT
  refine ⟨T, d, F, ht, ⟨congrArg nI hD.1, congrArg nI hD.1, hD.2⟩, ⟨congrArg nI hF.1, congrArg nI hF.1, hF.2⟩, ⟨rfl, rfl, rfl, rfl, rfl⟩, ⟨rfl, rfl, rfl, rfl, hce⟩, ru_sp2 h1 h2, P, Z, O, A, fo_up C 6 0, ps, [], fun s hs => ?_, ?_, trivial, by decide, trivial, rfl, rfl, ?_, ?_, fun o h => (by cases h), F11⟩
  · rw [fo_un (by omega), pk_un (by omega)]; exact F1 s hs
  · rw [fo_us]
    refine ⟨by decide, ⟨fun i h => absurd h (Nat.not_lt_zero _), fun i h => absurd h (Nat.not_lt_zero _), fun i h => by cases h⟩, fun i h => absurd h (Nat.not_lt_zero _), fun i h => absurd h (Nat.not_lt_zero _)⟩
  · rw [pk_us, fo_us]; rfl
  · rw [fo_us]; rfl
end
