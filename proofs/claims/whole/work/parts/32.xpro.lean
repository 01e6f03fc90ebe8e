/-! the class's side: finishing, going on with a part -/
section
variable {g : mG} {V : Nat → Prop} {Z : Nat → Nat} {pa : Nat → Option Nat} {T : Nat} {f_openCount f_typeCount : Int32} {a_nodeOp a_nodeA a_nodeB a_nodeParts a_nodeSize a_slotSize a_slotParams a_openLists a_typeParent : Nat → Int32} {s : St} {n : Nat} {ca inf mo cn ce re et ex ey ep v : Int32} {sv sh fr : Nat → Int32} {l r : List Fr} {f : Fr} {P : SX → Prop} {post : Int32 → SX → Prop} {N i p q : Nat}
theorem x_fin (h1 : xSp sv sh (sGl s) (f :: r)) (h2 : xL g fr (sGl s) (f :: r)) (hb : fr_bv f = 0 ∨ (8 ≤ fr_bv f ∧ fr_bv f < 12)) (hl : r.length < 700) (h : ∀ u', px_R g f_openCount f_typeCount a_nodeOp a_nodeA a_nodeB a_nodeParts a_nodeSize a_slotSize a_slotParams a_openLists a_typeParent (m_dlv r v s) u' → P u') : wpX_step P (xU g f_openCount f_typeCount a_nodeOp a_nodeA a_nodeB a_nodeParts a_nodeSize a_slotSize a_slotParams a_openLists a_typeParent x_z0 s (r.length + 1) ca inf 3 cn ce v et ex ey ep sv sh fr) :=
  br_f (by decide) (br_f (by decide) (br_f (by decide) (br_f (by decide) (br_f (by decide) (br_t rfl (x_pop h1 h2 hb hl (fun _ _ hs => x_give v hs h2.2 (by omega) h)))))))
theorem x_finR (h1 : xSp sv sh (sGl s) (f :: r)) (h2 : xL g fr (sGl s) (f :: r)) (hb : fr_bv f = 0 ∨ (8 ≤ fr_bv f ∧ fr_bv f < 12)) (hl : r.length < 700) (hi : i + 8 < 10000000) (hpq : p + 1 + q = 8) (H : ∀ p q, p + q = 8 → ∀ u', px_R g f_openCount f_typeCount a_nodeOp a_nodeA a_nodeB a_nodeParts a_nodeSize a_slotSize a_slotParams a_openLists a_typeParent (m_dlv r v s) u' → xR post (N + p) (i + q) u') : xR post (N + (p + 1)) (i + q) (xU g f_openCount f_typeCount a_nodeOp a_nodeA a_nodeB a_nodeParts a_nodeSize a_slotSize a_slotParams a_openLists a_typeParent x_z0 s (r.length + 1) ca inf 3 cn ce v et ex ey ep sv sh fr) :=
  x_go (by omega) (show ¬ (3 : Int32) = 7 by decide) (x_fin h1 h2 hb hl (fun u' hu => H p (q + 1) (by omega) u' hu))
theorem x_evR (G : g_w g V Z pa T) (X : xG g V Z f_openCount f_typeCount a_nodeOp a_nodeA a_nodeB a_nodeParts a_nodeSize a_slotSize a_slotParams a_openLists a_typeParent) {n e : Nat} (hV : V n) (he : e ≤ 5) (hl : l.length < 700) (hs : sBe s ≤ gF g) (h1 : xSp sv sh (sGl s) l) (h2 : xL g fr (sGl s) l) (hi : i + 8 < 10000000) (hpq : p + 1 + q = 8) (H : ∀ p q, p + q = 8 → ∀ u', px_R g f_openCount f_typeCount a_nodeOp a_nodeA a_nodeB a_nodeParts a_nodeSize a_slotSize a_slotParams a_openLists a_typeParent (m_ev g n e l s) u' → xR post (N + p) (i + q) u') : xR post (N + (p + 1)) (i + q) (xU g f_openCount f_typeCount a_nodeOp a_nodeA a_nodeB a_nodeParts a_nodeSize a_slotSize a_slotParams a_openLists a_typeParent x_z0 s l.length (nI (m_fc l)) (x_ix (m_ch g l)) 0 (nI n) (nI e) re et ex ey ep sv sh fr) :=
  x_go (by omega) (show ¬ (0 : Int32) = 7 by decide) (x_ev G X hV he hl hs h1 h2 (fun u' hu => H p (q + 1) (by omega) u' hu))
theorem x_pc {nd ev ph gt bv ty sr : Nat} {x0 x1 x2 la bx dt pl : Int32} {sc : List (Nat × Nat × Nat)} {tg : Option Nat} {c : Nat} {cs : List Nat} (hcl : cs.length < 1000) (hc : c < 392) (hz : a_nodeSize c = nI (Z c)) (hcc : ∀ c' cs', cs = c' :: cs' → c' = c + Z c) (h2 : xL g fr (sGl s) (((nd, ev, ph, c :: cs), (gt, x0, x1, x2), (la, bv, bx, ty), dt, sc, sr, tg, pl) :: r)) (hl : r.length < 700) (h : ∀ fr', xL g fr' (sGl s) (((nd, ev, ph, cs), (gt, x0, x1, x2), (la, bv, bx, ty), dt, sc, sr, tg, pl) :: r) → P (xU g f_openCount f_typeCount a_nodeOp a_nodeA a_nodeB a_nodeParts a_nodeSize a_slotSize a_slotParams a_openLists a_typeParent x_z0 s (r.length + 1) ca inf 0 (nI c) (nI ev) re et ex ey ep sv sh fr')) : wpX_step P (xU g f_openCount f_typeCount a_nodeOp a_nodeA a_nodeB a_nodeParts a_nodeSize a_slotSize a_slotParams a_openLists a_typeParent x_z0 s (r.length + 1) ca inf 1 cn ce re et ex ey ep sv sh fr) := by
  have h2' := h2
  obtain ⟨⟨c0, c1, c2, c3, c4, c5, c6, c7, c8, c9, c10, c11, c12, c13⟩, hL⟩ := h2'
  have c4 : fr (17 * r.length + 4) = nI (cs.length + 1) := c4
  have hbb : 17 * r.length + 17 ≤ 11900 := by omega
  refine br_f (by decide) (br_f (by decide) (br_f (by decide) (br_t rfl ?_)))
  unfold wpX_proceed
  dsimp only
  refine x_top r.length ?_
  refine ⟨xx_i 4 (by omega), ?_⟩
  rw [xx_c 4 4 (by omega), c4]
  refine br_f (nI_nle (by omega) (by omega)) ?_
  refine xx_r 3 (by omega) ?_
  rw [c3 c cs rfl]
  refine xx_r 1 (by omega) ?_
  rw [c1]
  refine x_skip (17 * r.length) c cs.length (Z c) hbb hc (c3 c cs rfl) hz c4 (h (upd (upd fr (17 * r.length + 3) (nI (c + Z c))) (17 * r.length + 4) (nI cs.length)) ⟨⟨?_, ?_, ?_, ?_, ?_, ?_, ?_, ?_, ?_, ?_, ?_, ?_, ?_, ?_⟩, xL_keep hL ?_⟩)
  · simp (disch := decide) only [up_n, up_s]; exact c0
  · simp (disch := decide) only [up_n, up_s]; exact c1
  · simp (disch := decide) only [up_n, up_s]; exact c2
  · intro c' cs' e'
    simp (disch := decide) only [up_n, up_s]
    rw [hcc c' cs' e']
  · simp (disch := decide) only [up_n, up_s]
  · simp (disch := decide) only [up_n, up_s]; exact c5
  · simp (disch := decide) only [up_n, up_s]; exact c6
  · simp (disch := decide) only [up_n, up_s]; exact c7
  · simp (disch := decide) only [up_n, up_s]; exact c8
  · simp (disch := decide) only [up_n, up_s]; exact c9
  · simp (disch := decide) only [up_n, up_s]; exact c10
  · simp (disch := decide) only [up_n, up_s]; exact c11
  · simp (disch := decide) only [up_n, up_s]; exact c12
  · simp (disch := decide) only [up_n, up_s]; exact c13
  · intro j hj
    rw [pk_un (by omega), pk_un (by omega)]
/-- going on with the next part: two steps -/
theorem x_pcR (G : g_w g V Z pa T) (X : xG g V Z f_openCount f_typeCount a_nodeOp a_nodeA a_nodeB a_nodeParts a_nodeSize a_slotSize a_slotParams a_openLists a_typeParent) {nd ev ph gt bv ty sr : Nat} {x0 x1 x2 la bx dt pl : Int32} {sc : List (Nat × Nat × Nat)} {tg : Option Nat} {c : Nat} {cs : List Nat} (hcl : cs.length < 1000) (hV : V c) (he : ev ≤ 5) (hcc : ∀ c' cs', cs = c' :: cs' → c' = c + Z c) (h1 : xSp sv sh (sGl s) (((nd, ev, ph, c :: cs), (gt, x0, x1, x2), (la, bv, bx, ty), dt, sc, sr, tg, pl) :: r)) (h2 : xL g fr (sGl s) (((nd, ev, ph, c :: cs), (gt, x0, x1, x2), (la, bv, bx, ty), dt, sc, sr, tg, pl) :: r)) (hl : r.length + 1 < 700) (hs : sBe s ≤ gF g) (hi : i + 8 < 10000000) (hpq : p + 2 + q = 8) (hca : ca = nI (m_fc (((nd, ev, ph, cs), (gt, x0, x1, x2), (la, bv, bx, ty), dt, sc, sr, tg, pl) :: r))) (hinf : inf = x_ix (m_ch g (((nd, ev, ph, cs), (gt, x0, x1, x2), (la, bv, bx, ty), dt, sc, sr, tg, pl) :: r))) (H : ∀ p q, p + q = 8 → ∀ u', px_R g f_openCount f_typeCount a_nodeOp a_nodeA a_nodeB a_nodeParts a_nodeSize a_slotSize a_slotParams a_openLists a_typeParent (m_ev g c ev (((nd, ev, ph, cs), (gt, x0, x1, x2), (la, bv, bx, ty), dt, sc, sr, tg, pl) :: r) s) u' → xR post (N + p) (i + q) u') : xR post (N + (p + 2)) (i + q) (xU g f_openCount f_typeCount a_nodeOp a_nodeA a_nodeB a_nodeParts a_nodeSize a_slotSize a_slotParams a_openLists a_typeParent x_z0 s (r.length + 1) ca inf 1 cn ce re et ex ey ep sv sh fr) := by
  refine x_go (by omega) (show ¬ (1 : Int32) = 7 by decide) (x_pc hcl (G.1 c hV).2.2.2.1 (X.1 c hV).2.2.1 hcc h2 (by omega) (fun fr' h2' => ?_))
  subst hca hinf
  exact x_evR (p := p) (q := q + 1) G X hV he hl hs (l := ((nd, ev, ph, cs), (gt, x0, x1, x2), (la, bv, bx, ty), dt, sc, sr, tg, pl) :: r) h1 h2' hi (by omega) H
theorem fo_drop_2 {Z : Nat → Nat} {e p k c c' : Nat} {l cs : List Nat} (h : fo_con Z e p l) (hd : l.drop k = c :: c' :: cs) : c' = c + Z c := by
  obtain ⟨p', h'⟩ := fo_con_drop k h
  rw [hd] at h'
  exact (fo_con_2 h').2
/-- the next part begins where the last ends -/
theorem w_nxt (G : g_w g V Z pa T) {nd ev ph gt bv ty sr : Nat} {x0 x1 x2 la bx dt pl : Int32} {sc : List (Nat × Nat × Nat)} {tg : Option Nat} {w c : Nat} {cs : List Nat} (hV : V nd) (h : w_lk g w ((nd, ev, ph, c :: cs), (gt, x0, x1, x2), (la, bv, bx, ty), dt, sc, sr, tg, pl)) : ∀ c' cs', cs = c' :: cs' → c' = c + Z c := by
  intro c' cs' e
  subst e
  have hc := (G.1 nd hV).2.2.2.2.2.1
  rcases h with h | h | h | h | h | h | h | h | h | h
  · exact fo_drop_2 hc h.2.2.2.2.2.1.symm
  · obtain ⟨h1, h2, h3⟩ := h
    rcases h3 with ⟨_, _, z⟩ | ⟨_, _, j, _, z, _⟩ | ⟨_, _, z⟩
    · cases z
    · cases z
    · cases z
  · exact fo_drop_2 hc h.2.2.2.1.symm
  · exact fo_drop_2 hc h.2.2.1.symm
  · exact fo_drop_2 hc h.2.2.2.1.symm
  · exact absurd h.2.2 (by simp)
  · exact absurd h.2.2.1 (by simp)
  · exact absurd h.2.2.1 (by simp)
  · exact absurd h.2.2 (by simp)
  · exact absurd h.2.2 (by simp)
theorem w_rml {nd ev ph gt bv ty sr : Nat} {rm : List Nat} {x0 x1 x2 la bx dt pl : Int32} {sc : List (Nat × Nat × Nat)} {tg : Option Nat} {w : Nat} (h : w_lk g w ((nd, ev, ph, rm), (gt, x0, x1, x2), (la, bv, bx, ty), dt, sc, sr, tg, pl)) : rm.length ≤ (gK g nd).length + 1 := by
  rcases h with h | h | h | h | h | h | h | h | h | h
  · rw [h.2.2.2.2.2.1, List.length_drop]; omega
  · obtain ⟨h1, h2, h3⟩ := h
    rcases h3 with ⟨_, _, z⟩ | ⟨_, _, j, _, z, _⟩ | ⟨_, _, z⟩
    · rw [z]; exact Nat.zero_le _
    · rw [z]; exact Nat.le_add_left _ _
    · rw [z]; exact Nat.zero_le _
  · rw [h.2.2.2.1, List.length_drop]; omega
  · rw [h.2.2.1, List.length_drop]; omega
  · rw [h.2.2.2.1, List.length_drop]; omega
  · rw [h.2.2]; exact Nat.zero_le _
  · rw [h.2.2.1]; exact Nat.zero_le _
  · rw [h.2.2.1]; exact Nat.zero_le _
  · rw [h.2.2]; exact Nat.zero_le _
  · rw [h.2.2]; exact Nat.zero_le _
theorem w_len (h : w_iq g Z n l) (hZ : 1 ≤ Z n) : l.length + 2 ≤ 700 := by
  have := h.2
  omega
theorem w_bdv {f : Fr} (h : w_bd g f) : fr_bv f = 0 ∨ (8 ≤ fr_bv f ∧ fr_bv f < 12) := by
  rcases h with h | h
  · exact Or.inl h
  · exact Or.inr ⟨h.1, h.2.1⟩
end
