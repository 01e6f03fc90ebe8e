/-! the class's side: the run -/
section
variable {g : mG} {V : Nat → Prop} {Z : Nat → Nat} {pa : Nat → Option Nat} {T : Nat} {f_openCount f_typeCount : Int32} {a_nodeOp a_nodeA a_nodeB a_nodeParts a_nodeSize a_slotSize a_slotParams a_openLists a_typeParent : Nat → Int32} {s : St} {n : Nat} {ca inf mo cn ce re et ex ey ep v : Int32} {sv sh fr : Nat → Int32} {l r : List Fr} {f : Fr} {P : SX → Prop} {post : Int32 → SX → Prop} {N i p q : Nat}
theorem x_sim (G : g_w g V Z pa T) (X : xG g V Z f_openCount f_typeCount a_nodeOp a_nodeA a_nodeB a_nodeParts a_nodeSize a_slotSize a_slotParams a_openLists a_typeParent) {m : MS} {u : SX} (W : w_m g V Z pa m) (ht : m.1 < 4) (hpr : u_p m < 1000000) (R : px_R g f_openCount f_typeCount a_nodeOp a_nodeA a_nodeB a_nodeParts a_nodeSize a_slotSize a_slotParams a_openLists a_typeParent m u) (hi : i + 8 < 10000000) (H : ∀ p q, p + q = 8 → ∀ u', px_R g f_openCount f_typeCount a_nodeOp a_nodeA a_nodeB a_nodeParts a_nodeSize a_slotSize a_slotParams a_openLists a_typeParent (m_step g m) u' → xR post (N + p) (i + q) u') : xR post (N + 8) i u := by
  obtain ⟨t, v, tgt, ty, pp, l, s⟩ := m
  have ht : t < 4 := ht
  have hpr : sPr s < 1000000 := hpr
  obtain ⟨a1, a2, a3, _, b0, b1, b2, b3⟩ := W
  have hs : w_s g s := ⟨a2, a3⟩
  obtain ⟨cn, ce, re, et, ex, ey, ep, sv, sh, fr, h1, h2, r0, r1, r3, rfl⟩ := R
  have ht : t = 0 ∨ t = 1 ∨ t = 2 ∨ t = 3 := by omega
  rcases ht with rfl | rfl | rfl | rfl
  · obtain ⟨f, r, rfl, c1, c2, c3⟩ := b0 rfl
    have hl := w_ln G c2
    have hl : r.length + 1 ≤ 700 := hl
    have hfr : m_fc r ≤ gD g := Nat.le_trans (Nat.le_add_right _ _) a1
    have r0 := r0 rfl f r rfl
    obtain ⟨⟨nd, ev, ph, rm⟩, ⟨gt, x0, x1, x2⟩, ⟨la, bv, bx, ty⟩, dt, sc, sr, tg, pl⟩ := f
    have c1 : ph = 0 ∨ ph = 1 ∨ ph = 3 := c1
    have q4 : ph ≠ 4 := by omega
    have q8 : ph ≠ 8 := by omega
    refine x_proR (p := 4) (q := 0) (sv := sv) (sh := sh) (fr := fr) (re := re) G X c2.1 c2.2 q4 q8 hfr (by omega) hs hpr h1 h2 (fun z _ _ => ?_) hi rfl H
    exact r0 (by show ph = 1; omega)
  · obtain ⟨c1, c2⟩ := b1 rfl
    cases l with
    | nil => exact absurd rfl c1
    | cons f r =>
      have hl := w_ln G c2
      have hl : r.length + 1 ≤ 700 := hl
      have hfr : m_fc r ≤ gD g := Nat.le_trans (Nat.le_add_right _ _) a1
      have r1 : re = v := r1 rfl
      subst r1
      obtain ⟨⟨nd, ev, ph, rm⟩, ⟨gt, x0, x1, x2⟩, ⟨la, bv, bx, ty⟩, dt, sc, sr, tg, pl⟩ := f
      exact x_takeR (sv := sv) (sh := sh) (fr := fr) G X c2.1 c2.2 hfr (by omega) hs hpr h1 h2 hi H
  · obtain ⟨f, r, rfl, c1, c2⟩ := b2 rfl
    obtain ⟨hne7, hne6, hne1, hne3⟩ := w_48 c1
    have efc : m_fc (f :: r) = m_fc r := w_fc_ne hne6
    have ech : m_ch g (f :: r) = m_ch g r := (if_neg hne7).trans (if_neg (fun z => hne1 z.1))
    show xR post (N + 8) i (xU g f_openCount f_typeCount a_nodeOp a_nodeA a_nodeB a_nodeParts a_nodeSize a_slotSize a_slotParams a_openLists a_typeParent x_z0 s (r.length + 1) (nI (m_fc (f :: r))) (x_ix (m_ch g (f :: r))) 5 cn ce re et ex ey ep sv sh fr)
    rw [efc, ech]
    obtain ⟨⟨nd, ev, ph, rm⟩, ⟨gt, x0, x1, x2⟩, ⟨la, bv, bx, ty⟩, dt, sc, sr, tg, pl⟩ := f
    exact x_srchR (sv := sv) (sh := sh) (fr := fr) G X c2.1 c2.2 c1 hs h1 h2 hi H
  · obtain ⟨c1, c2, c3⟩ := b3 rfl
    obtain ⟨g1, g2, g3⟩ := r3 rfl
    have g1 : ex = v := g1
    have g2 : et = x_tg tgt := g2
    subst g1 g2
    cases l with
    | nil =>
      have htn : tgt = none := by
        cases htg : tgt with
        | none => rfl
        | some k =>
          obtain ⟨q, r', a1, _⟩ := c2 k htg
          exact absurd (List.suffix_nil.mp a1) (by simp)
      obtain ⟨g4, g5⟩ := g3 htn
      have g4 : ey = nI ty := g4
      have g5 : ep = pp := g5
      subst g4 g5
      show xR post (N + 8) i (xU g f_openCount f_typeCount a_nodeOp a_nodeA a_nodeB a_nodeParts a_nodeSize a_slotSize a_slotParams a_openLists a_typeParent x_z0 s 0 (nI 0) (-1) 6 cn ce re (x_tg tgt) ex (nI ty) ep sv sh fr)
      refine x_go (N := N + 7) (by omega) (show ¬ (6 : Int32) = 7 by decide) ?_
      refine br_f (by decide) (br_t (by decide) ?_)
      refine br_t rfl ?_
      show xR post (N + 7) (i + 1) (xU g f_openCount f_typeCount a_nodeOp a_nodeA a_nodeB a_nodeParts a_nodeSize a_slotSize a_slotParams a_openLists a_typeParent (1, 0, nI ty, ex, ep) s 0 (nI 0) (-1) 7 cn ce re (x_tg tgt) ex (nI ty) ep sv sh fr)
      refine H 7 1 rfl _ ?_
      exact ⟨cn, ce, re, x_tg tgt, ex, nI ty, ep, sv, sh, fr, h1, h2, fun z => (by cases z), fun z => (by cases z), fun z => (by cases z), rfl⟩
    | cons f r =>
      have FW : w_l g V Z pa 1 (f :: r) ∨ w_l g V Z pa 0 (f :: r) ∧ (gO g (fr_nd f) = 12 ∨ gO g (fr_nd f) = 14 ∨ gO g (fr_nd f) = 19) := by
        rcases c1 with z | ⟨f', r', e, z1, z2⟩
        · exact Or.inl z
        · injection e with e1 e2
          subst e1 e2
          exact Or.inr ⟨z1, z2⟩
      obtain ⟨⟨nd, ev, ph, rm⟩, ⟨gt, x0, x1, x2⟩, ⟨la, bv, bx, ty⟩, dt, sc, sr, tg, pl⟩ := f
      exact x_exitR (sv := sv) (sh := sh) (fr := fr) G X FW c2 hs h1 h2 g3 hi H
theorem x_run (G : g_w g V Z pa T) (X : xG g V Z f_openCount f_typeCount a_nodeOp a_nodeA a_nodeB a_nodeParts a_nodeSize a_slotSize a_slotParams a_openLists a_typeParent) : ∀ (b : Nat) {m : MS} {u : SX} {N i : Nat}, w_m g V Z pa m → u_m g Z m ≤ b → u_p m + b < 1000000 → px_R g f_openCount f_typeCount a_nodeOp a_nodeA a_nodeB a_nodeParts a_nodeSize a_slotSize a_slotParams a_openLists a_typeParent m u → i + 8 * b < 10000000 → (4 ≤ (m_it g b m).1 → ∀ N i u', i < 10000000 → px_R g f_openCount f_typeCount a_nodeOp a_nodeA a_nodeB a_nodeParts a_nodeSize a_slotSize a_slotParams a_openLists a_typeParent (m_it g b m) u' → xR post (N + 1) i u') → xR post (8 * b + 1 + N) i u
  | 0, m, u, N, i, W, hu, hp, R, hi, H => by
    have h4 : 4 ≤ m.1 := by
      rcases Nat.lt_or_ge m.1 4 with z | z
      · have := (w_step G W z).2
        omega
      · exact z
    have := H h4 N i u (by omega) R
    rw [Nat.mul_zero, Nat.zero_add, Nat.add_comm]
    exact this
  | b + 1, m, u, N, i, W, hu, hp, R, hi, H => by
    rcases Nat.lt_or_ge m.1 4 with z | z
    · obtain ⟨⟨s1, s2, s3⟩, s4⟩ := w_step G W z
      have e : 8 * (b + 1) + 1 + N = (8 * b + 1 + N) + 8 := by omega
      rw [e]
      refine x_sim G X W z (by omega) R (by omega) (fun p q hpq u' R' => ?_)
      have e2 : 8 * b + 1 + N + p = 8 * b + 1 + (N + p) := by omega
      rw [e2]
      exact x_run G X b s1 (by omega) (by omega) R' (by omega) H
    · rw [m_it_done z] at H
      have := H z (8 * (b + 1) + N) i u (by omega) R
      have e : 8 * (b + 1) + 1 + N = 8 * (b + 1) + N + 1 := by omega
      rw [e]
      exact this
theorem x_endl {fr : Nat → Int32} {s : St} : ∀ {l : List Fr} {w : Nat}, w_l g V Z pa w l → ∀ {ca inf : Int32} {sv sh : Nat → Int32}, xSp sv sh (sGl s) l → xL g fr (sGl s) l → ∀ (c n : Nat), c + l.length ≤ 700 → l.length < n → (∀ ca' inf' sv' sh', xSp sv' sh' (sGl s) [] → post 2 (xU g 0 f_typeCount a_nodeOp a_nodeA a_nodeB a_nodeParts a_nodeSize (upd a_slotSize 6 0) a_slotParams a_openLists a_typeParent x_z0 s 0 ca' inf' mo cn ce re et ex ey ep sv' sh' fr)) → wX_run_42 post n (nI c) f_openCount f_typeCount (nI (sPr s)) (nI (gD g)) (nI (gF g)) (x_z0.1) (x_z0.2.1) (x_z0.2.2.1) (x_z0.2.2.2.1) (x_z0.2.2.2.2) (nI (sBe s)) (nI l.length) mo cn ce re ca inf et ex ey ep a_nodeOp a_nodeA a_nodeB a_nodeParts a_nodeSize a_slotSize a_slotParams a_openLists a_typeParent (sCe s) (sLo s) sv sh (sOu s) fr
  | _, _, _, _, _, _, _, _, _, _, 0, _, hn, _ => by omega
  | [], _, _, ca, inf, sv, sh, h1, h2, c, n + 1, hc, hn, H => by
    rw [wX_run_42]
    exact br_c (fun _ => nm_e (H _ _ _ _ h1)) (fun _ => br_t (by decide) (nm_e (H _ _ _ _ h1)))
  | f :: r, w, W, ca, inf, sv, sh, h1, h2, c, n + 1, hc, hn, H => by
    have hc : c + (r.length + 1) ≤ 700 := hc
    have hn : r.length + 1 < n + 1 := hn
    rw [wX_run_42]
    refine br_f (nI_ge (b := 700) (by omega) (by decide)) (br_f (nI_nle (n := r.length + 1) (by omega) (by omega)) ?_)
    refine x_pop (f := f) h1 h2 (w_bdv W.1.2.2.2.1) (by omega) (fun sv' sh' hs' => ?_)
    exact nm_r (nI_1 c) (x_endl W.2 hs' h2.2 (c + 1) n (by omega) (by omega) H)
/-- the end of the run: what is left when it is done -/
theorem x_end (G : g_w g V Z pa T) {m : MS} {u : SX} (W : w_m g V Z pa m) (h4 : 4 ≤ m.1) (R : px_R g f_openCount f_typeCount a_nodeOp a_nodeA a_nodeB a_nodeParts a_nodeSize a_slotSize a_slotParams a_openLists a_typeParent m u) (hi : i < 10000000) (H : ∀ ca' inf' mo cn ce re et ex ey ep sv' sh' fr, xSp sv' sh' (sGl m.2.2.2.2.2.2) [] → post (x_z m).1 (xU g 0 f_typeCount a_nodeOp a_nodeA a_nodeB a_nodeParts a_nodeSize (upd a_slotSize 6 0) a_slotParams a_openLists a_typeParent (x_z m) m.2.2.2.2.2.2 0 ca' inf' mo cn ce re et ex ey ep sv' sh' fr)) : xR post (N + 1) i u := by
  obtain ⟨t, v, tgt, ty, pp, l, s⟩ := m
  obtain ⟨cn, ce, re, et, ex, ey, ep, sv, sh, fr, h1, h2, r0, r1, r3, rfl⟩ := R
  obtain ⟨_, _, _, hE, _⟩ := W
  rcases hE h4 with ⟨rfl, rfl⟩ | ⟨rfl, rfl⟩ | ⟨rfl, w, Wl⟩
  · skip
    refine br_f (nI_ge (b := 10000000) hi (by decide)) (br_t rfl ⟨1, ?_⟩)
    rw [wX_run_42]
    exact br_f (by decide) (br_t (show nI 0 ≤ 0 by decide) (nm_e (H _ _ _ _ _ _ _ _ _ _ _ _ _ h1)))
  · skip
    refine br_f (nI_ge (b := 10000000) hi (by decide)) (br_t rfl ⟨1, ?_⟩)
    rw [wX_run_42]
    exact br_f (by decide) (br_t (show nI 0 ≤ 0 by decide) (nm_e (H _ _ _ _ _ _ _ _ _ _ _ _ _ h1)))
  · have Wl : w_l g V Z pa w l := Wl
    have hln := w_ln G Wl
    refine br_f (nI_ge (b := 10000000) hi (by decide)) (br_t rfl ⟨701, ?_⟩)
    exact x_endl Wl h1 h2 0 701 (by omega) (by omega) (fun ca' inf' sv' sh' hs' => H ca' inf' _ _ _ _ _ _ _ _ sv' sh' fr hs')
end
