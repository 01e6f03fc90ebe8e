/-! the class's side: searching, leaving -/
section
variable {g : mG} {V : Nat → Prop} {Z : Nat → Nat} {pa : Nat → Option Nat} {T : Nat} {f_openCount f_typeCount : Int32} {a_nodeOp a_nodeA a_nodeB a_nodeParts a_nodeSize a_slotSize a_slotParams a_openLists a_typeParent : Nat → Int32} {s : St} {n : Nat} {ca inf mo cn ce re et ex ey ep v : Int32} {sv sh fr : Nat → Int32} {l r : List Fr} {f : Fr} {P : SX → Prop} {post : Int32 → SX → Prop} {N i p q : Nat}
theorem m_take_nd {f : Fr} {v : Int32} : fr_nd (m_take g f v) = fr_nd f := by
  obtain ⟨⟨nd, ev, ph, rm⟩, ⟨gt, x0, x1, x2⟩, ⟨la, bv, bx, ty⟩, dt, sc, sr, tg, pl⟩ := f
  by_cases p0 : ph = 0
  · subst p0
    show fr_nd (if gO g nd = 6 then ((nd, ev, 1, [(gK g nd).getD (if v = 0 then 2 else 1) 0]), (gt + 1, v, x1, x2), (0, bv, bx, ty), dt, sc, sr, tg, pl)
      else if gO g nd = 10 then ((nd, ev, 1, rm), (gt + 1, x0, x1, x2), (0, bv, bx, ty), dt, sc, sr, tg, pl)
      else if gO g nd = 9 then ((nd, ev, 1, rm), (gt + 1, v, x1, x2), (0, gA g nd, v, ty), dt, sc, sr, tg, pl)
      else if gO g nd = 13 then ((nd, ev, 1, rm), (gt + 1, v, x1, x2), (0, bv, bx, ty), dt, sc, sr, tg, pl)
      else if gO g nd = 15 then ((nd, ev, 2, rm), (gt + 1, v, x1, x2), (la, bv, bx, ty), dt, sc, sr, tg, pl)
      else ((nd, ev, 0, rm), (gt + 1, (if gt = 0 then v else x0), (if gt = 1 then v else x1), (if gt = 2 then v else x2)), (la, bv, bx, ty), dt, sc, sr, tg, pl)) = nd
    split
    · rfl
    · split
      · rfl
      · split
        · rfl
        · split
          · rfl
          · split <;> rfl
  · cases ph with
    | zero => exact absurd rfl p0
    | succ k => rfl
theorem w_take_ch {f : Fr} {r : List Fr} {v : Int32} (F : w_f g V Z pa 1 f r) : m_ch g (m_take g f v :: r) = m_ch g (f :: r) := by
  obtain ⟨⟨nd, ev, ph, rm⟩, ⟨gt, x0, x1, x2⟩, ⟨la, bv, bx, ty⟩, dt, sc, sr, tg, pl⟩ := f
  by_cases p0 : ph = 0
  · subst p0
    have hO : ¬ (16 ≤ gO g nd ∧ gO g nd ≤ 18) := by
      obtain ⟨_, _, f3, _⟩ := F
      rcases f3 with h | h | h | h | h | h | h | h | h | h
      · exact h.2.2.2.2.1
      all_goals omega
    have k : ∀ f' : Fr, fr_nd f' = nd → fr_ph f' ≠ 7 → m_ch g (f' :: r) = m_ch g r := fun f' e1 e2 => (if_neg e2).trans (if_neg (by rw [e1]; omega))
    refine (k _ m_take_nd ?_).trans rfl
    show fr_ph (if gO g nd = 6 then ((nd, ev, 1, [(gK g nd).getD (if v = 0 then 2 else 1) 0]), (gt + 1, v, x1, x2), (0, bv, bx, ty), dt, sc, sr, tg, pl)
      else if gO g nd = 10 then ((nd, ev, 1, rm), (gt + 1, x0, x1, x2), (0, bv, bx, ty), dt, sc, sr, tg, pl)
      else if gO g nd = 9 then ((nd, ev, 1, rm), (gt + 1, v, x1, x2), (0, gA g nd, v, ty), dt, sc, sr, tg, pl)
      else if gO g nd = 13 then ((nd, ev, 1, rm), (gt + 1, v, x1, x2), (0, bv, bx, ty), dt, sc, sr, tg, pl)
      else if gO g nd = 15 then ((nd, ev, 2, rm), (gt + 1, v, x1, x2), (la, bv, bx, ty), dt, sc, sr, tg, pl)
      else ((nd, ev, 0, rm), (gt + 1, (if gt = 0 then v else x0), (if gt = 1 then v else x1), (if gt = 2 then v else x2)), (la, bv, bx, ty), dt, sc, sr, tg, pl)) ≠ 7
    split
    · show (1 : Nat) ≠ 7; decide
    · split
      · show (1 : Nat) ≠ 7; decide
      · split
        · show (1 : Nat) ≠ 7; decide
        · split
          · show (1 : Nat) ≠ 7; decide
          · split
            · show (2 : Nat) ≠ 7; decide
            · show (0 : Nat) ≠ 7; decide
  · cases ph with
    | zero => exact absurd rfl p0
    | succ k => rfl
theorem x_takeR (G : g_w g V Z pa T) (X : xG g V Z f_openCount f_typeCount a_nodeOp a_nodeA a_nodeB a_nodeParts a_nodeSize a_slotSize a_slotParams a_openLists a_typeParent) {nd ev ph gt bv ty sr : Nat} {rm : List Nat} {x0 x1 x2 la bx dt pl : Int32} {sc : List (Nat × Nat × Nat)} {tg : Option Nat} (F : w_f g V Z pa 1 ((nd, ev, ph, rm), (gt, x0, x1, x2), (la, bv, bx, ty), dt, sc, sr, tg, pl) r) (W : w_l g V Z pa 1 r) (hfr : m_fc r ≤ gD g) (hl : r.length < 700) (hs : w_s g s) (hpr : sPr s < 1000000) (h1 : xSp sv sh (sGl s) (((nd, ev, ph, rm), (gt, x0, x1, x2), (la, bv, bx, ty), dt, sc, sr, tg, pl) :: r)) (h2 : xL g fr (sGl s) (((nd, ev, ph, rm), (gt, x0, x1, x2), (la, bv, bx, ty), dt, sc, sr, tg, pl) :: r)) (hi : i + 8 < 10000000) (H : ∀ p q, p + q = 8 → ∀ u', px_R g f_openCount f_typeCount a_nodeOp a_nodeA a_nodeB a_nodeParts a_nodeSize a_slotSize a_slotParams a_openLists a_typeParent (m_step g (1, v, none, 0, 0, ((nd, ev, ph, rm), (gt, x0, x1, x2), (la, bv, bx, ty), dt, sc, sr, tg, pl) :: r, s)) u' → xR post (N + p) (i + q) u') : xR post (N + 8) i (xU g f_openCount f_typeCount a_nodeOp a_nodeA a_nodeB a_nodeParts a_nodeSize a_slotSize a_slotParams a_openLists a_typeParent x_z0 s (r.length + 1) (nI (m_fc (((nd, ev, ph, rm), (gt, x0, x1, x2), (la, bv, bx, ty), dt, sc, sr, tg, pl) :: r))) (x_ix (m_ch g (((nd, ev, ph, rm), (gt, x0, x1, x2), (la, bv, bx, ty), dt, sc, sr, tg, pl) :: r))) 4 cn ce v et ex ey ep sv sh fr) := by
  have h2' := h2
  obtain ⟨⟨c0, c1, c2, c3, c4, c5, c6, c7, c8, c9, c10, c11, c12, c13⟩, hL⟩ := h2'
  have hph : ph < 9 := by
    obtain ⟨_, _, f3, _⟩ := F
    rcases f3 with h | h | h | h | h | h | h | h | h | h <;> omega
  have hbb : 17 * r.length + 17 ≤ 11900 := by omega
  have hst : m_step g (1, v, none, 0, 0, ((nd, ev, ph, rm), (gt, x0, x1, x2), (la, bv, bx, ty), dt, sc, sr, tg, pl) :: r, s) = (if ph = 4 ∨ ph = 8 then (2, 0, none, 0, 0, ((nd, ev, ph, rm), (gt, x0, x1, x2), (la, bv, bx, ty), dt, sc, sr, tg, pl) :: r, s)
    else if ph = 0 ∧ gO g nd = 10 ∧ v = 0 then m_dlv r 0 s
    else m_pro g (m_take g ((nd, ev, ph, rm), (gt, x0, x1, x2), (la, bv, bx, ty), dt, sc, sr, tg, pl) v) r s) := rfl
  rw [hst] at H
  refine x_go (N := N + 7) (by omega) (show ¬ (4 : Int32) = 7 by decide) ?_
  refine br_f (by decide) (br_f (by decide) (br_f (by decide) (br_f (by decide) (br_f (by decide) (br_f (by decide) (br_t rfl ?_))))))
  unfold wpX_takeResult
  dsimp only
  refine x_top r.length ?_
  refine xx_r 2 (by omega) ?_
  rw [c2]
  by_cases p0 : ph = 0
  · subst p0
    rw [if_neg (by omega)] at H
    refine br_t rfl ?_
    refine x_tkP G X F hl h1 h2 (fun o z => ?_) (fun z re' sv' sh' fr' h1' h2' hla' => ?_)
    · rw [if_pos ⟨rfl, o, z⟩] at H
      have hg0 : gt = 0 := by
        obtain ⟨_, _, f3, _⟩ := F
        rcases f3 with h | h | h | h | h | h | h | h | h | h
        · exact h.2.2.2.2.2.2.2 (by omega)
        all_goals omega
      refine x_finR (p := 6) (q := 1) (f := ((nd, ev, 0, rm), (gt, x0, x1, x2), (la, bv, bx, ty), dt, sc, sr, tg, pl)) (sv := sv) (sh := sh) (fr := x_st fr (17 * r.length) gt v) h1 ⟨⟨(x_st_n (by omega)).trans c0, (x_st_n (by omega)).trans c1, (x_st_n (by omega)).trans c2, fun c cs y => (x_st_n (by omega)).trans (c3 c cs y), (x_st_n (by omega)).trans c4, fun _ y => absurd y (by omega), fun _ y => absurd y (by omega), fun _ y => absurd y (by omega), (x_st_n (by omega)).trans c8, (x_st_n (by omega)).trans c9, (x_st_n (by omega)).trans c10, fun y => ?_, fun y => (by rcases y with y | y <;> cases y), fun y => (by cases y)⟩, xL_keep hL (fun j hj => x_st_b hj)⟩ (w_bdv F.2.2.2.1) hl hi rfl H
      rw [x_st_n (by omega), x_st_n (by omega)]
      exact c11 y
    · rw [if_neg (fun y => z y.2)] at H
      obtain ⟨d1, d2, d3, d4, d5⟩ := w_take (v := v) G F (by show (0 : Nat) ≠ 4; decide) (by show (0 : Nat) ≠ 8; decide)
      have d6 := w_take_ch (v := v) F
      have d7 : m_ch g (((nd, ev, 0, rm), (gt, x0, x1, x2), (la, bv, bx, ty), dt, sc, sr, tg, pl) :: r) = m_ch g r := rfl
      have d8 : m_fc (((nd, ev, 0, rm), (gt, x0, x1, x2), (la, bv, bx, ty), dt, sc, sr, tg, pl) :: r) = m_fc r := rfl
      rw [d7] at d6
      rw [d8] at d4
      have e9 : fr_nd (m_take g ((nd, ev, 0, rm), (gt, x0, x1, x2), (la, bv, bx, ty), dt, sc, sr, tg, pl) v) = nd := m_take_nd
      rw [← d4, ← d6]
      have hla2 : (fr_ph (m_take g ((nd, ev, 0, rm), (gt, x0, x1, x2), (la, bv, bx, ty), dt, sc, sr, tg, pl) v) = 1 ∨ 5 ≤ fr_ph (m_take g ((nd, ev, 0, rm), (gt, x0, x1, x2), (la, bv, bx, ty), dt, sc, sr, tg, pl) v)) → fr_rm (m_take g ((nd, ev, 0, rm), (gt, x0, x1, x2), (la, bv, bx, ty), dt, sc, sr, tg, pl) v) = [] → gO g (fr_nd (m_take g ((nd, ev, 0, rm), (gt, x0, x1, x2), (la, bv, bx, ty), dt, sc, sr, tg, pl) v)) ≠ 10 → re' = fr_la (m_take g ((nd, ev, 0, rm), (gt, x0, x1, x2), (la, bv, bx, ty), dt, sc, sr, tg, pl) v) := fun a b c => hla' a b (by rw [e9] at c; exact c)
      generalize m_take g ((nd, ev, 0, rm), (gt, x0, x1, x2), (la, bv, bx, ty), dt, sc, sr, tg, pl) v = f' at d1 d2 d3 h1' h2' hla2 H ⊢
      obtain ⟨⟨nd', ev', ph', rm'⟩, ⟨gt', x0', x1', x2'⟩, ⟨la', bv', bx', ty'⟩, dt', sc', sr', tg', pl'⟩ := f'
      exact x_proR (p := 3) (q := 1) (re := re') (sv := sv') (sh := sh') (fr := fr') G X d1 W d2 d3 hfr hl hs hpr h1' h2' hla2 hi rfl H
  · have e : m_take g ((nd, ev, ph, rm), (gt, x0, x1, x2), (la, bv, bx, ty), dt, sc, sr, tg, pl) v = ((nd, ev, ph, rm), (gt + 1, x0, x1, x2), (v, bv, bx, ty), dt, sc, sr, tg, pl) := by
      cases ph with
      | zero => exact absurd rfl p0
      | succ k => rfl
    by_cases p4 : ph = 4 ∨ ph = 8
    · rw [if_pos p4] at H
      have e4 : nI (if ph = 8 then 4 else ph) = 4 := by
        rcases p4 with z | z
        · subst z; rfl
        · subst z; rfl
      rw [e4]
      refine br_f (by decide) (br_t rfl ?_)
      refine H 7 1 rfl _ ?_
      exact ⟨cn, ce, v, et, ex, ey, ep, sv, sh, fr, h1, h2, fun z => (by cases z), fun z => (by cases z), fun z => (by cases z), rfl⟩
    · rw [if_neg p4, if_neg (fun z => p0 z.1), e] at H
      rw [if_neg (by omega)]
      refine br_f (xx_ne (b := 0) p0 (by omega) (by decide)) (br_f (xx_ne (b := 4) (by omega) (by omega) (by decide)) ?_)
      obtain ⟨d1, d2, d3, d4, d5⟩ := w_take (v := v) G F (fun z => p4 (Or.inl z)) (fun z => p4 (Or.inr z))
      rw [e] at d1
      refine x_proR (gt := gt + 1) (la := v) (p := 3) (q := 1) G X d1 W (fun z => p4 (Or.inl z)) (fun z => p4 (Or.inr z)) hfr hl hs hpr h1 ⟨⟨c0, c1, c2, c3, c4, ?_, ?_, ?_, c8, c9, c10, c11, c12, c13⟩, hL⟩ (fun _ _ _ => rfl) hi rfl H
      · intro z _
        refine c5 z ?_
        obtain ⟨_, _, f3, _⟩ := F
        rcases f3 with h | h | h | h | h | h | h | h | h | h
        · omega
        · omega
        · omega
        · exact h.2.2.2.2 (by omega)
        · exact h.2.2.1
        all_goals omega
      · intro z; exact absurd z p0
      · intro z; exact absurd z p0
end
