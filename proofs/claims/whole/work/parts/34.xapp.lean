/-! the class's side: applying -/
section
variable {g : mG} {V : Nat → Prop} {Z : Nat → Nat} {pa : Nat → Option Nat} {T : Nat} {f_openCount f_typeCount : Int32} {a_nodeOp a_nodeA a_nodeB a_nodeParts a_nodeSize a_slotSize a_slotParams a_openLists a_typeParent : Nat → Int32} {s : St} {n : Nat} {ca inf mo cn ce re et ex ey ep v : Int32} {sv sh fr : Nat → Int32} {l r : List Fr} {f : Fr} {P : SX → Prop} {post : Int32 → SX → Prop} {N i p q : Nat}
theorem w_ret (G : g_w g V Z pa T) {f : Fr} {r : List Fr} (F : w_f g V Z pa 0 f r) (W : w_l g V Z pa 1 r) (hO : gO g (fr_nd f) = 12) : ∃ h, m_find (fun q => decide (fr_nd q = gR g (fr_nd f) ∧ fr_ev q = fr_ev f)) (f :: r) = some h := by
  obtain ⟨b1, b2⟩ := (G.1 _ F.1).2.2.2.2.2.2.2.2.2.2 hO
  have ex : ∃ q, q ∈ f :: r ∧ fr_nd q = gR g (fr_nd f) ∧ fr_ev q = fr_ev f := by
    refine b2 (fun m => ∃ q, q ∈ f :: r ∧ fr_nd q = m ∧ fr_ev q = fr_ev f) ⟨f, List.mem_cons_self .., rfl, rfl⟩ ?_
    rintro m p ⟨q, q1, q2, q3⟩ e
    rw [← q2] at e
    obtain ⟨q', c1, c2, c3⟩ := w_lx_all (w := 0) (l := f :: r) ⟨F, W⟩ q1 e
    exact ⟨q', c1, c2, by rw [c3]; exact q3⟩
  obtain ⟨q, q1, q2, q3⟩ := ex
  exact m_find_ex (p := fun q => decide (fr_nd q = gR g (fr_nd f) ∧ fr_ev q = fr_ev f)) q1 (by simp [q2, q3])
/-- a frame whose parts are all there -/
theorem w_done0 (G : g_w g V Z pa T) {nd ev gt bv ty sr : Nat} {x0 x1 x2 la bx dt pl : Int32} {sc : List (Nat × Nat × Nat)} {tg : Option Nat} (F : w_f g V Z pa 0 ((nd, ev, 0, []), (gt, x0, x1, x2), (la, bv, bx, ty), dt, sc, sr, tg, pl) r) : bv = 0 ∧ gt = (gK g nd).length ∧ gO g nd ≤ 26 ∧ gO g nd ≠ 6 ∧ gO g nd ≠ 7 ∧ gO g nd ≠ 9 ∧ gO g nd ≠ 10 ∧ gO g nd ≠ 11 ∧ gO g nd ≠ 13 ∧ gO g nd ≠ 15 ∧ ¬ (16 ≤ gO g nd ∧ gO g nd ≤ 18) ∧ fo_least (gO g nd) ≤ gt ∧ r.length + 2 ≤ 700 ∧ gt < 56 := by
  obtain ⟨f1, f2, f3, f4, f5, f6, f7, f8, f9, f10⟩ := F
  have f1 : V nd := f1
  have hb : bv = 0 := by
    rcases f4 with z | ⟨_, _, z⟩
    · exact z
    · rcases z with ⟨z, _⟩ | z | z <;> cases z
  have f3 : (gO g nd ≤ 26 ∧ gO g nd ≠ 7 ∧ gO g nd ≠ 11 ∧ ¬ (16 ≤ gO g nd ∧ gO g nd ≤ 18) ∧ [] = (gK g nd).drop (gt + 0) ∧ gt + 0 ≤ (gK g nd).length ∧ (gO g nd = 6 ∨ gO g nd = 9 ∨ gO g nd = 10 ∨ gO g nd = 13 ∨ gO g nd = 15 → gt = 0)) := by
    rcases f3 with h | h | h | h | h | h | h | h | h | h
    · exact h.2
    all_goals omega
  obtain ⟨k1, k2, k3, k4, k5, k6, k7⟩ := f3
  have hg : gt = (gK g nd).length := by
    have := congrArg List.length k5
    rw [List.length_drop] at this
    have : 0 = (gK g nd).length - (gt + 0) := this
    omega
  have N := G.1 nd f1
  have hle := N.2.2.2.2.2.2.1 k1
  have h0 : ∀ o, (o = 6 ∨ o = 9 ∨ o = 10 ∨ o = 13 ∨ o = 15) → gO g nd ≠ o := by
    intro o ho z
    have := k7 (by omega)
    have h1 : 1 ≤ fo_least (gO g nd) := by
      rw [z]
      rcases ho with rfl | rfl | rfl | rfl | rfl <;> decide
    omega
  exact ⟨hb, hg, k1, h0 6 (by decide), k2, h0 9 (by decide), h0 10 (by decide), k3, h0 13 (by decide), h0 15 (by decide), k4, by omega, w_len (f9 (by show (0 : Nat) ≠ 7; decide)) N.2.1, by have := (w_ks G (n := nd) f1).2.1; omega⟩
theorem x_kb {a : Nat} {x : Int32} {Q : Int32 → Prop} (ha : a < 4) (h : Q (m_kb a x)) : wpX_keptBits Q (nI a) x := by
  have : a = 0 ∨ a = 1 ∨ a = 2 ∨ a = 3 := by omega
  unfold wpX_keptBits
  rcases this with rfl | rfl | rfl | rfl
  all_goals
    repeat first | exact h | refine br_t (by decide) ?_ | refine br_f (by decide) ?_
theorem fo_ops (o : Nat) (h : o < 27) (h6 : o ≠ 6) (h7 : o ≠ 7) (h9 : o ≠ 9) (h10 : o ≠ 10) (h11 : o ≠ 11) (h13 : o ≠ 13) (h15 : o ≠ 15) (h16 : ¬ (16 ≤ o ∧ o ≤ 18)) : o = 0 ∨ o = 1 ∨ o = 2 ∨ o = 3 ∨ o = 4 ∨ o = 5 ∨ o = 8 ∨ o = 12 ∨ o = 14 ∨ o = 19 ∨ o = 20 ∨ o = 21 ∨ o = 22 ∨ o = 23 ∨ o = 24 ∨ o = 25 ∨ o = 26 := by
  have hc : o = 0 ∨ o = 1 ∨ o = 2 ∨ o = 3 ∨ o = 4 ∨ o = 5 ∨ o = 6 ∨ o = 7 ∨ o = 8 ∨ o = 9 ∨ o = 10 ∨ o = 11 ∨ o = 12 ∨ o = 13 ∨ o = 14 ∨ o = 15 ∨ o = 16 ∨ o = 17 ∨ o = 18 ∨ o = 19 ∨ o = 20 ∨ o = 21 ∨ o = 22 ∨ o = 23 ∨ o = 24 ∨ o = 25 ∨ o = 26 := by
    clear h6 h7 h9 h10 h11 h13 h15 h16
    omega
  rcases hc with rfl | rfl | rfl | rfl | rfl | rfl | rfl | rfl | rfl | rfl | rfl | rfl | rfl | rfl | rfl | rfl | rfl | rfl | rfl | rfl | rfl | rfl | rfl | rfl | rfl | rfl | rfl <;> first | contradiction | decide | exact absurd (by decide) h16
theorem x_add0 (x : Int32) : x + 0 = x := Int32.add_zero x
theorem x_upd_id {a : Nat → Int32} {k : Nat} : upd a k (a k) = a := by
  funext j
  by_cases h : j = k
  · rw [h, pk_us]
  · rw [pk_un h]
theorem x_appR (G : g_w g V Z pa T) (X : xG g V Z f_openCount f_typeCount a_nodeOp a_nodeA a_nodeB a_nodeParts a_nodeSize a_slotSize a_slotParams a_openLists a_typeParent) {nd ev gt bv ty sr : Nat} {x0 x1 x2 la bx dt pl : Int32} {sc : List (Nat × Nat × Nat)} {tg : Option Nat} (F : w_f g V Z pa 0 ((nd, ev, 0, []), (gt, x0, x1, x2), (la, bv, bx, ty), dt, sc, sr, tg, pl) r) (W : w_l g V Z pa 1 r) (hfr : m_fc r ≤ gD g) (hs : w_s g s) (hpr : sPr s < 1000000) (h1 : xSp sv sh (sGl s) (((nd, ev, 0, []), (gt, x0, x1, x2), (la, bv, bx, ty), dt, sc, sr, tg, pl) :: r)) (h2 : xL g fr (sGl s) (((nd, ev, 0, []), (gt, x0, x1, x2), (la, bv, bx, ty), dt, sc, sr, tg, pl) :: r)) (hi : i + 8 < 10000000) (hpq : p + 3 + q = 8) (H : ∀ p q, p + q = 8 → ∀ u', px_R g f_openCount f_typeCount a_nodeOp a_nodeA a_nodeB a_nodeParts a_nodeSize a_slotSize a_slotParams a_openLists a_typeParent (m_app g ((nd, ev, 0, []), (gt, x0, x1, x2), (la, bv, bx, ty), dt, sc, sr, tg, pl) r s) u' → xR post (N + p) (i + q) u') : xR post (N + (p + 3)) (i + q) (xU g f_openCount f_typeCount a_nodeOp a_nodeA a_nodeB a_nodeParts a_nodeSize a_slotSize a_slotParams a_openLists a_typeParent x_z0 s (r.length + 1) (nI (m_fc r)) (x_ix (m_ch g r)) 2 cn ce re et ex ey ep sv sh fr) := by
  obtain ⟨hb, hg, hO, o6, o7, o9, o10, o11, o13, o15, o16, hle, hl, hg56⟩ := w_done0 G F
  have f1 : V nd := F.1
  have f2 : ev ≤ 5 := F.2.1
  obtain ⟨n1, n2, n3, n4, n5, n6, n7, n8, n9, n10, n11⟩ := G.1 nd f1
  obtain ⟨y1, y2, y3, y4, y5, y6, y7, y8⟩ := X.1 nd f1
  have har := n9 hO
  have h2' := h2
  obtain ⟨⟨c0, c1, c2, c3, c4, c5, c6, c7, c8, c9, c10, c11, c12, c13⟩, hL⟩ := h2'
  have d5 : 1 ≤ fo_least (gO g nd) → fr (17 * r.length + 5) = x0 := fun z => c5 (Or.inl rfl) (by omega)
  have d6 : 2 ≤ fo_least (gO g nd) → fr (17 * r.length + 6) = x1 := fun z => c6 rfl (by omega)
  have hbb : 17 * r.length + 17 ≤ 11900 := by omega
  subst hb
  have FIN' : ∀ (v : Int32) (s' : St) (r' : List Fr) (sv' sh' : Nat → Int32) (ca' inf' : Int32), m_app g ((nd, ev, 0, []), (gt, x0, x1, x2), (la, 0, bx, ty), dt, sc, sr, tg, pl) r s = m_dlv r' v s' → r'.length = r.length → xSp sv' sh' (sGl s') (((nd, ev, 0, []), (gt, x0, x1, x2), (la, 0, bx, ty), dt, sc, sr, tg, pl) :: r') → xL g fr (sGl s') (((nd, ev, 0, []), (gt, x0, x1, x2), (la, 0, bx, ty), dt, sc, sr, tg, pl) :: r') → xR post (N + (p + 2)) (i + (q + 1)) (xU g f_openCount f_typeCount a_nodeOp a_nodeA a_nodeB a_nodeParts a_nodeSize a_slotSize a_slotParams a_openLists a_typeParent x_z0 s' (r.length + 1) ca' inf' 3 cn ce v et ex ey ep sv' sh' fr) := by
    intro v s' r' sv' sh' ca' inf' e e2 h1' h2'
    rw [e] at H
    rw [← e2]
    exact x_finR (p := p + 1) (q := q + 1) h1' h2' (Or.inl rfl) (by omega) hi (by omega) H
  have FIN : ∀ v, m_app g ((nd, ev, 0, []), (gt, x0, x1, x2), (la, 0, bx, ty), dt, sc, sr, tg, pl) r s = m_dlv r v s → xR post (N + (p + 2)) (i + (q + 1)) (xU g f_openCount f_typeCount a_nodeOp a_nodeA a_nodeB a_nodeParts a_nodeSize a_slotSize a_slotParams a_openLists a_typeParent x_z0 s (r.length + 1) (nI (m_fc r)) (x_ix (m_ch g r)) 3 cn ce v et ex ey ep sv sh fr) := fun v e => FIN' v s r sv sh _ _ e rfl h1 h2
  have RAI : ∀ t d, m_app g ((nd, ev, 0, []), (gt, x0, x1, x2), (la, 0, bx, ty), dt, sc, sr, tg, pl) r s = m_raise g ((nd, ev, 0, []), (gt, x0, x1, x2), (la, 0, bx, ty), dt, sc, sr, tg, pl) r t d s → xR post (N + (p + 2)) (i + (q + 1)) (xU g f_openCount f_typeCount a_nodeOp a_nodeA a_nodeB a_nodeParts a_nodeSize a_slotSize a_slotParams a_openLists a_typeParent x_z0 s (r.length + 1) (nI (m_fc r)) (x_ix (m_ch g r)) 5 cn ce re et ex ey ep sv sh (upd (upd (upd (upd fr (17 * r.length + 2) 4) (17 * r.length + 13) (nI t)) (17 * r.length + 14) d) (17 * r.length + 15) (x_ix (m_ch g r)))) := by
    intro t d e
    refine H (p + 2) (q + 1) (by omega) _ ?_
    rw [e]
    refine ⟨cn, ce, re, et, ex, ey, ep, sv, sh, (upd (upd (upd (upd fr (17 * r.length + 2) 4) (17 * r.length + 13) (nI t)) (17 * r.length + 14) d) (17 * r.length + 15) (x_ix (m_ch g r))), xSp_c rfl (xSp_d rfl h1), ⟨⟨?_, ?_, ?_, ?_, ?_, ?_, ?_, ?_, ?_, ?_, ?_, ?_, ?_, ?_⟩, xL_keep hL ?_⟩, fun z => (by cases z), fun z => (by cases z), fun z => (by cases z), rfl⟩
    · simp (disch := decide) only [up_n, up_s]; exact c0
    · simp (disch := decide) only [up_n, up_s]; exact c1
    · simp (disch := decide) only [up_n, up_s]; rfl
    · intro c cs z; cases z
    · simp (disch := decide) only [up_n, up_s]; exact c4
    · intro z; rcases z with z | z | ⟨z, _⟩ <;> cases z
    · intro z; cases z
    · intro z; cases z
    · simp (disch := decide) only [up_n, up_s]; exact c8
    · simp (disch := decide) only [up_n, up_s]; exact c9
    · simp (disch := decide) only [up_n, up_s]; exact c10
    · intro z; exact absurd rfl z
    · intro _
      refine ⟨?_, ?_, ?_⟩ <;> simp (disch := decide) only [up_n, up_s]
    · intro z; cases z
    · intro j hj
      rw [pk_un (by omega), pk_un (by omega), pk_un (by omega), pk_un (by omega)]
  have EXI : ∀ v h, m_app g ((nd, ev, 0, []), (gt, x0, x1, x2), (la, 0, bx, ty), dt, sc, sr, tg, pl) r s = (3, v, some h, 0, 0, ((nd, ev, 0, []), (gt, x0, x1, x2), (la, 0, bx, ty), dt, sc, sr, tg, pl) :: r, s) → xR post (N + (p + 2)) (i + (q + 1)) (xU g f_openCount f_typeCount a_nodeOp a_nodeA a_nodeB a_nodeParts a_nodeSize a_slotSize a_slotParams a_openLists a_typeParent x_z0 s (r.length + 1) (nI (m_fc r)) (x_ix (m_ch g r)) 6 cn ce re (nI h) v ey ep sv sh fr) := by
    intro v h e
    refine H (p + 2) (q + 1) (by omega) _ ?_
    rw [e]
    exact ⟨cn, ce, re, nI h, v, ey, ep, sv, sh, fr, h1, h2, fun z => (by cases z), fun z => (by cases z), fun _ => ⟨rfl, rfl, fun z => by cases z⟩, rfl⟩
  refine x_go (by omega) (show ¬ (2 : Int32) = 7 by decide) ?_
  refine br_f (by decide) (br_f (by decide) (br_f (by decide) (br_f (by decide) (br_t rfl ?_))))
  unfold wpX_apply
  dsimp only
  refine x_top r.length ?_
  refine xx_r 0 (by omega) ?_
  rw [c0]
  refine xx_r 5 (by omega) ?_
  refine xx_r 6 (by omega) ?_
  refine xx_n n4 ?_
  rw [y1]
  have hcases := fo_ops (gO g nd) (by omega) o6 o7 o9 o10 o11 o13 o15 o16
  have AP : ∀ {k}, gO g nd = k → m_app g ((nd, ev, 0, []), (gt, x0, x1, x2), (la, 0, bx, ty), dt, sc, sr, tg, pl) r s = m_apk g ((nd, ev, 0, []), (gt, x0, x1, x2), (la, 0, bx, ty), dt, sc, sr, tg, pl) r s k := fun e => congrArg (m_apk g ((nd, ev, 0, []), (gt, x0, x1, x2), (la, 0, bx, ty), dt, sc, sr, tg, pl) r s) e
  rcases hcases with o | o | o | o | o | o | o | o | o | o | o | o | o | o | o | o | o
  · rw [o]
    repeat first | refine br_t (by decide) ?_ | refine br_f (by decide) ?_
    rw [d5 (by rw [o]; decide), d6 (by rw [o]; decide)]
    exact FIN _ (AP o)
  · rw [o]
    repeat first | refine br_t (by decide) ?_ | refine br_f (by decide) ?_
    rw [d5 (by rw [o]; decide), d6 (by rw [o]; decide)]
    exact FIN _ (AP o)
  · rw [o]
    repeat first | refine br_t (by decide) ?_ | refine br_f (by decide) ?_
    rw [d5 (by rw [o]; decide), d6 (by rw [o]; decide)]
    exact FIN _ (AP o)
  · rw [o]
    repeat first | refine br_t (by decide) ?_ | refine br_f (by decide) ?_
    rw [d5 (by rw [o]; decide), d6 (by rw [o]; decide)]
    refine fb_if Iff.rfl (fun e => ?_) (fun e => ?_)
    · refine x_raise (17 * r.length) hbb ?_
      exact RAI 3 x0 ((AP o).trans (if_pos e))
    · refine ⟨e, ?_⟩
      exact FIN _ ((AP o).trans (if_neg e))
  · rw [o]
    repeat first | refine br_t (by decide) ?_ | refine br_f (by decide) ?_
    rw [d5 (by rw [o]; decide), d6 (by rw [o]; decide)]
    refine fb_if Iff.rfl (fun e => ?_) (fun e => ?_)
    · exact FIN 0 ((AP o).trans (congrArg (fun z => m_dlv r z s) (if_pos e)))
    · exact FIN 1 ((AP o).trans (congrArg (fun z => m_dlv r z s) (if_neg e)))
  · rw [o]
    repeat first | refine br_t (by decide) ?_ | refine br_f (by decide) ?_
    rw [d5 (by rw [o]; decide), d6 (by rw [o]; decide)]
    refine fb_if Iff.rfl (fun e => ?_) (fun e => ?_)
    · exact FIN 1 ((AP o).trans (congrArg (fun z => m_dlv r z s) (if_pos e)))
    · exact FIN 0 ((AP o).trans (congrArg (fun z => m_dlv r z s) (if_neg e)))
  · rw [o]
    repeat first | refine br_t (by decide) ?_ | refine br_f (by decide) ?_
    rw [d5 (by rw [o]; decide)]
    refine xx_n n4 ?_
    rw [y5 (Or.inr (by unfold fo_ma; omega))]
    refine xx_n n4 ?_
    rw [y1, o]
    repeat first | refine br_t (by decide) ?_ | refine br_f (by decide) ?_
    have hA := har.1 o
    by_cases a8 : gA g nd < 8
    · refine br_f (nI_ge (b := 8) a8 (by decide)) ⟨xx_i 1 (by omega), ?_⟩
      rw [xx_c 1 1 (by omega), c1]
      have ei : nI ev * 8 + nI (gA g nd) = nI (8 * ev + gA g nd) := by
        rw [show (8 : Int32) = nI 8 from rfl, pk_mul, nI_add, Nat.mul_comm]
      rw [ei]
      refine ⟨vp_in_nI (by omega) (by decide), ?_⟩
      rw [nI_clamp (by omega)]
      refine nm_e ?_
      exact FIN' x0 (s_lo s (upd (sLo s) (8 * ev + gA g nd) x0)) r sv sh _ _ ((AP o).trans (if_pos a8)) rfl h1 h2
    · refine br_t (nI_le (a := 8) (by omega) (by omega)) ?_
      rw [x_sub8 (by omega)]
      refine ⟨vp_in_nI (by omega) (by decide), ?_⟩
      rw [nI_clamp (by omega), show vp_nar .boolean 1 = 1 by decide]
      refine nm_e ⟨vp_in_nI (by omega) (by decide), nm_e ?_⟩
      have e0 := (AP o).trans (if_neg a8)
      have hsp : ∀ gl', (∀ w, w ≠ gA g nd → ∀ r', (∀ w, w ≠ gA g nd → m_cur gl' w r' = m_cur (sGl s) w r) → m_cur gl' (gA g nd) r' = some x0 → xSp (upd sv (gA g nd - 8) x0) (upd sh (gA g nd - 8) 1) gl' (((nd, ev, 0, []), (gt, x0, x1, x2), (la, 0, bx, ty), dt, sc, sr, tg, pl) :: r')) := by
        intro gl' w0 _ r' hw ha
        refine xSp_c rfl ?_
        have h1' := xSp_d rfl h1
        intro j hj
        by_cases e : j = gA g nd - 8
        · rw [e, pk_us, pk_us, show 8 + (gA g nd - 8) = gA g nd from by omega, ha]
          exact ⟨rfl, rfl⟩
        · rw [pk_un e, pk_un e, hw (8 + j) (by omega)]
          exact h1' j hj
      cases hm : m_set (gA g nd) x0 r with
      | some r' =>
        have hm' : m_set (gA g (fr_nd ((nd, ev, 0, []), (gt, x0, x1, x2), (la, 0, bx, ty), dt, sc, sr, tg, pl))) (fr_x0 ((nd, ev, 0, []), (gt, x0, x1, x2), (la, 0, bx, ty), dt, sc, sr, tg, pl)) r = some r' := hm
        rw [hm'] at e0
        have sh' := m_set_sh hm
        obtain ⟨a1, a2, _, _⟩ := m_sh_fun (g := g) (Z := Z) sh'
        refine FIN' x0 s r' _ _ _ _ e0 (m_sh_len sh').symm (hsp _ 0 (by omega) r' (fun w hw => (m_cur_set hm).1 hw) (m_cur_set (w := 0) hm).2) ⟨?_, xL_set hm hL⟩
        rw [← m_sh_len sh']
        exact xF_list h2.1 a1.symm a2.symm (fun z => absurd rfl z)
      | none =>
        have hm' : m_set (gA g (fr_nd ((nd, ev, 0, []), (gt, x0, x1, x2), (la, 0, bx, ty), dt, sc, sr, tg, pl))) (fr_x0 ((nd, ev, 0, []), (gt, x0, x1, x2), (la, 0, bx, ty), dt, sc, sr, tg, pl)) r = none := hm
        rw [hm'] at e0
        obtain ⟨a1, a2⟩ := m_set_none (gl := fun v => if v = gA g nd then some x0 else sGl s v) hm
        have hg' : ∀ w, w ≠ gA g nd → (fun v => if v = gA g nd then some x0 else sGl s v) w = sGl s w := fun w hw => if_neg hw
        refine FIN' x0 (s_gl s (fun v => if v = gA g nd then some x0 else sGl s v)) r _ _ _ _ e0 rfl (hsp (fun v => if v = gA g nd then some x0 else sGl s v) 0 (by omega) r (fun w hw => m_cur_glob hg' hw r) ?_) ⟨xF_list h2.1 rfl rfl (fun z => absurd rfl z), xL_glob hg' a2 hL⟩
        rw [a1]
        exact if_pos rfl
  · rw [o]
    repeat first | refine br_t (by decide) ?_ | refine br_f (by decide) ?_
    rw [d5 (by rw [o]; decide)]
    refine xx_n n4 ?_
    refine xx_n n4 ?_
    rw [y1, o]
    repeat first | refine br_t (by decide) ?_ | refine br_f (by decide) ?_
    obtain ⟨z1, z2⟩ := y7 o
    refine ⟨vp_in_nI n4 (by decide), ?_⟩
    rw [nI_clamp (by omega), z2, pk_sub (by omega), show nd - (nd - gR g nd) = gR g nd from by omega]
    refine xx_r 1 (by omega) ?_
    rw [c1]
    obtain ⟨h, hh⟩ := w_ret G F W o
    refine nm_e ⟨r.length + 3, ?_⟩
    refine x_ret (gl := sGl s) (gR g nd) ev (by omega) f2 (w := 0) (l := ((nd, ev, 0, []), (gt, x0, x1, x2), (la, 0, bx, ty), dt, sc, sr, tg, pl) :: r) ⟨F, W⟩ (fun n hn => (G.1 n hn).2.2.2.1) h2 (by show r.length + 1 ≤ 700; omega) ?_ (r.length + 3) (by show r.length + 1 + 1 < r.length + 3; omega)
    have hh' : m_find (fun q => decide (fr_nd q = gR g nd ∧ fr_ev q = ev)) (((nd, ev, 0, []), (gt, x0, x1, x2), (la, 0, bx, ty), dt, sc, sr, tg, pl) :: r) = some h := hh
    rw [hh']
    refine EXI x0 h ((AP o).trans ?_)
    show (3, x0, m_find (fun q => decide (fr_nd q = gR g nd ∧ fr_ev q = ev)) (((nd, ev, 0, []), (gt, x0, x1, x2), (la, 0, bx, ty), dt, sc, sr, tg, pl) :: r), 0, 0, ((nd, ev, 0, []), (gt, x0, x1, x2), (la, 0, bx, ty), dt, sc, sr, tg, pl) :: r, s) = _
    rw [hh']
  · rw [o]
    repeat first | refine br_t (by decide) ?_ | refine br_f (by decide) ?_
    rw [d5 (by rw [o]; decide), d6 (by rw [o]; decide)]
    refine xx_n n4 ?_
    refine xx_n n4 ?_
    rw [y1, o]
    repeat first | refine br_t (by decide) ?_ | refine br_f (by decide) ?_
    refine nm_e ⟨r.length + 2, ?_⟩
    refine x_thr (gl := sGl s) G X (w := 0) (l := ((nd, ev, 0, []), (gt, x0, x1, x2), (la, 0, bx, ty), dt, sc, sr, tg, pl) :: r) ⟨F, W⟩ h2 (by show r.length + 1 ≤ 700; omega) (fun h hh => ?_) (fun hh => ?_) (r.length + 2) (by show r.length + 1 < r.length + 2; omega)
    · refine EXI x1 h ((AP o).trans ?_)
      show (match m_find (fun q => decide (fr_ph q = 1 ∧ gO g (fr_nd q) = 13 ∧ fr_x0 q = x0)) (((nd, ev, 0, []), (gt, x0, x1, x2), (la, 0, bx, ty), dt, sc, sr, tg, pl) :: r) with
        | some h => (3, x1, some h, 0, 0, ((nd, ev, 0, []), (gt, x0, x1, x2), (la, 0, bx, ty), dt, sc, sr, tg, pl) :: r, s)
        | none => m_raise g ((nd, ev, 0, []), (gt, x0, x1, x2), (la, 0, bx, ty), dt, sc, sr, tg, pl) r 5 x0 s) = _
      rw [hh]
    · refine x_raise (17 * r.length) hbb ?_
      refine RAI 5 x0 ((AP o).trans ?_)
      show (match m_find (fun q => decide (fr_ph q = 1 ∧ gO g (fr_nd q) = 13 ∧ fr_x0 q = x0)) (((nd, ev, 0, []), (gt, x0, x1, x2), (la, 0, bx, ty), dt, sc, sr, tg, pl) :: r) with
        | some h => (3, x1, some h, 0, 0, ((nd, ev, 0, []), (gt, x0, x1, x2), (la, 0, bx, ty), dt, sc, sr, tg, pl) :: r, s)
        | none => m_raise g ((nd, ev, 0, []), (gt, x0, x1, x2), (la, 0, bx, ty), dt, sc, sr, tg, pl) r 5 x0 s) = _
      rw [hh]
  · rw [o]
    repeat first | refine br_t (by decide) ?_ | refine br_f (by decide) ?_
    rw [d5 (by rw [o]; decide)]
    refine xx_n n4 ?_
    rw [y5 (Or.inr (by unfold fo_ma; omega))]
    refine xx_n n4 ?_
    rw [y1, o]
    repeat first | refine br_t (by decide) ?_ | refine br_f (by decide) ?_
    have hA := har.2.2.1 (by omega)
    refine nm_e ⟨r.length + 2, ?_⟩
    refine x_inv (gl := sGl s) (gA g nd) hA G X (w := 0) (l := ((nd, ev, 0, []), (gt, x0, x1, x2), (la, 0, bx, ty), dt, sc, sr, tg, pl) :: r) ⟨F, W⟩ h2 (by show r.length + 1 ≤ 700; omega) (fun h hh => ?_) (fun hh => ?_) (r.length + 2) (by show r.length + 1 < r.length + 2; omega)
    · refine EXI x0 h ((AP o).trans ?_)
      show (match m_find (fun q => decide (fr_ph q = 1 ∧ gO g (fr_nd q) = 18 ∧ gA g (fr_nd q) = gA g nd)) (((nd, ev, 0, []), (gt, x0, x1, x2), (la, 0, bx, ty), dt, sc, sr, tg, pl) :: r) with
        | some h => (3, x0, some h, 0, 0, ((nd, ev, 0, []), (gt, x0, x1, x2), (la, 0, bx, ty), dt, sc, sr, tg, pl) :: r, s)
        | none => m_raise g ((nd, ev, 0, []), (gt, x0, x1, x2), (la, 0, bx, ty), dt, sc, sr, tg, pl) r 5 x0 s) = _
      rw [hh]
    · refine x_raise (17 * r.length) hbb ?_
      refine RAI 5 x0 ((AP o).trans ?_)
      show (match m_find (fun q => decide (fr_ph q = 1 ∧ gO g (fr_nd q) = 18 ∧ gA g (fr_nd q) = gA g nd)) (((nd, ev, 0, []), (gt, x0, x1, x2), (la, 0, bx, ty), dt, sc, sr, tg, pl) :: r) with
        | some h => (3, x0, some h, 0, 0, ((nd, ev, 0, []), (gt, x0, x1, x2), (la, 0, bx, ty), dt, sc, sr, tg, pl) :: r, s)
        | none => m_raise g ((nd, ev, 0, []), (gt, x0, x1, x2), (la, 0, bx, ty), dt, sc, sr, tg, pl) r 5 x0 s) = _
      rw [hh]
  · rw [o]
    repeat first | refine br_t (by decide) ?_ | refine br_f (by decide) ?_
    rw [d5 (by rw [o]; decide)]
    refine ⟨vp_in_nI n4 (by decide), ?_⟩
    rw [nI_clamp (by omega), y5 (Or.inr (by unfold fo_ma; omega))]
    refine x_raise (17 * r.length) hbb ?_
    exact RAI (gA g nd) x0 (AP o)
  · rw [o]
    repeat first | refine br_t (by decide) ?_ | refine br_f (by decide) ?_
    rw [d5 (by rw [o]; decide)]
    refine ⟨vp_in_nI n4 (by decide), ?_⟩
    rw [nI_clamp (by omega), y5 (Or.inr (by unfold fo_ma; omega))]
    refine x_raise (17 * r.length) hbb ?_
    exact RAI (gA g nd) x0 (AP o)
  · rw [o]
    repeat first | refine br_t (by decide) ?_ | refine br_f (by decide) ?_
    rw [d5 (by rw [o]; decide)]
    refine xx_n n4 ?_
    refine xx_n n4 ?_
    rw [y1, o]
    repeat first | refine br_t (by decide) ?_ | refine br_f (by decide) ?_
    refine fb_if (nI_leI (a := 24) (by decide) (by omega)) (fun e => ?_) (fun e => ?_)
    · refine nm_r (nI_1 _) ?_
      have ep : s_pr s x0 = (s.1, s.2.1, s.2.2.1, s.2.2.2.1 + 1, s.2.2.2.2) := by
        unfold s_pr
        rw [if_neg (by show ¬ sPr s < 24; omega)]
      have e3 := AP o
      have e3 : m_app g ((nd, ev, 0, []), (gt, x0, x1, x2), (la, 0, bx, ty), dt, sc, sr, tg, pl) r s = m_dlv r x0 (s_pr s x0) := e3
      rw [ep] at e3
      exact FIN' x0 _ r sv sh _ _ e3 rfl h1 h2
    · refine ⟨vp_in_nI (by omega) (by decide), ?_⟩
      rw [nI_clamp (by omega)]
      refine nm_e (nm_r (nI_1 _) ?_)
      have ep : s_pr s x0 = (s.1, s.2.1, upd s.2.2.1 s.2.2.2.1 x0, s.2.2.2.1 + 1, s.2.2.2.2) := by
        unfold s_pr
        rw [if_pos (by show sPr s < 24; omega)]
      have e3 := AP o
      have e3 : m_app g ((nd, ev, 0, []), (gt, x0, x1, x2), (la, 0, bx, ty), dt, sc, sr, tg, pl) r s = m_dlv r x0 (s_pr s x0) := e3
      rw [ep] at e3
      exact FIN' x0 _ r sv sh _ _ e3 rfl h1 h2
  · rw [o]
    repeat first | refine br_t (by decide) ?_ | refine br_f (by decide) ?_
    have hA := har.2.2.2.2.1 o
    obtain ⟨s1, s2, s3⟩ := X.2.1 (gA g nd) hA
    have hF : gF g ≤ 200 := G.2.2.2.2.2.2.1
    have hD : gD g ≤ 5 := G.2.2.2.2.2.1
    have hP : gP g (gA g nd) ≤ 3 := G.2.2.2.2.2.2.2.2 _
    have hKl : (gK g nd).length < 56 := by omega
    have e0 := AP o
    have e0 : m_app g ((nd, ev, 0, []), (gt, x0, x1, x2), (la, 0, bx, ty), dt, sc, sr, tg, pl) r s = (if gC g (gA g nd) = 0 then m_raise g ((nd, ev, 0, []), (gt, x0, x1, x2), (la, 0, bx, ty), dt, sc, sr, tg, pl) r 8 (nI (gA g nd)) s
      else if gP g (gA g nd) ≠ (gK g nd).length then m_raise g ((nd, ev, 0, []), (gt, x0, x1, x2), (la, 0, bx, ty), dt, sc, sr, tg, pl) r 9 (nI (gK g nd).length) s
      else if gD g ≤ m_fc r then m_raise g ((nd, ev, 0, []), (gt, x0, x1, x2), (la, 0, bx, ty), dt, sc, sr, tg, pl) r 7 (nI (m_fc r)) s
      else if gF g ≤ sBe s then (6, 0, none, 0, 0, ((nd, ev, 0, []), (gt, x0, x1, x2), (la, 0, bx, ty), dt, sc, sr, tg, pl) :: r, s)
      else m_ev g (56 * gA g nd) (m_fc r + 1) (((nd, ev, 6, []), (gt, x0, x1, x2), (la, 0, bx, ty), dt, sc, sr, tg, pl) :: r) (s_lo (s_be s (sBe s + 1)) (m_lo s (m_fc r + 1) (gK g nd).length x0 x1 x2))) := e0
    refine xx_n n4 ?_
    rw [y5 (Or.inr (by unfold fo_ma; omega))]
    refine xx_n n4 ?_
    rw [y2]
    refine ⟨vp_in_nI (by omega) (by decide), ?_⟩
    rw [nI_clamp (by omega), s1]
    refine fb_if (nI_eq (b := 0) (by omega) (by decide)) (fun e => ?_) (fun e => ?_)
    · refine x_raise (17 * r.length) hbb ?_
      exact RAI 8 _ (e0.trans (if_pos e))
    · rw [if_neg e] at e0
      refine ⟨vp_in_nI (by omega) (by decide), ?_⟩
      rw [s3]
      refine fb_if (nI_eq (by omega) (by omega)) (fun e2 => ?_) (fun e2 => ?_)
      · rw [if_neg (by omega)] at e0
        refine fb_if (nI_ltI (by omega) (by omega)) (fun e3 => ?_) (fun e3 => ?_)
        · rw [if_neg (by omega)] at e0
          refine x_beat hs.1 hF (fun e4 => ?_) (fun e4 => ?_)
          · rw [if_neg (by omega)] at e0
            refine br_f (by decide) ?_
            refine nm_r (nI_1 _) ⟨9, ?_⟩
            have hx := x_lo_0 (sLo s) (m_fc r + 1) (gK g nd).length x0 x1 x2
            have hloc := x_locs (P := fun u => xR post (N + (p + 2)) (i + (q + 1)) u) (f_openCount := f_openCount) (f_typeCount := f_typeCount) (f_printedCount := nI (sPr s)) (f_depthLimit := nI (gD g)) (f_fuelLimit := nI (gF g)) (f_lastStatus := x_z0.1) (f_lastValue := x_z0.2.1) (f_lastError := x_z0.2.2.1) (f_lastDatum := x_z0.2.2.2.1) (f_lastPlace := x_z0.2.2.2.2) (f_beatsUsed := nI (sBe s + 1)) (f_frameCount := nI (r.length + 1)) (f_mode := 2) (f_currentNode := cn) (f_currentEnv := ce) (f_result := re) (f_inForce := x_ix (m_ch g r)) (f_exitTarget := et) (f_exitValue := ex) (f_exitType := ey) (f_exitPlace := ep) (a_nodeOp := a_nodeOp) (a_nodeA := a_nodeA) (a_nodeB := a_nodeB) (a_nodeParts := a_nodeParts) (a_nodeSize := a_nodeSize) (a_slotSize := a_slotSize) (a_slotParams := a_slotParams) (a_openLists := a_openLists) (a_typeParent := a_typeParent) (a_elements := sCe s) (a_specialValue := sv) (a_specialHas := sh) (a_printed := sOu s) (a_frames := fr) (L := sLo s) (x0 := x0) (x1 := x1) (x2 := x2) (17 * r.length) (gA g nd) (gK g nd).length (m_fc r + 1) hbb (by omega) (by omega) (fun z => c5 (Or.inl rfl) (by omega)) (fun z => c6 rfl (by omega)) (fun z => c7 rfl (by omega)) ?_ 8 0 9 (by omega) (by omega)
            · rw [hx] at hloc
              exact hloc
            · rw [e0] at H
              obtain ⟨v1, v2⟩ := G.2.1 _ hA e
              refine x_evR (p := p + 1) (q := q + 1) (s := s_lo (s_be s (sBe s + 1)) (m_lo s (m_fc r + 1) (gK g nd).length x0 x1 x2)) (l := ((nd, ev, 6, []), (gt, x0, x1, x2), (la, 0, bx, ty), dt, sc, sr, tg, pl) :: r) G X v1 (by omega) (by show r.length + 1 < 700; omega) (by show sBe s + 1 ≤ gF g; omega) (xSp_c rfl (xSp_d rfl h1)) ⟨⟨?_, ?_, ?_, ?_, ?_, ?_, ?_, ?_, ?_, ?_, ?_, ?_, ?_, ?_⟩, xL_keep hL ?_⟩ hi (by omega) H
              · simp (disch := decide) only [up_n, up_s]; exact c0
              · simp (disch := decide) only [up_n, up_s]; exact c1
              · simp (disch := decide) only [up_n, up_s]; rfl
              · intro c cs z; cases z
              · simp (disch := decide) only [up_n, up_s]; exact c4
              · intro z; rcases z with z | z | ⟨z, _⟩ <;> cases z
              · intro z; cases z
              · intro z; cases z
              · simp (disch := decide) only [up_n, up_s]; exact c8
              · simp (disch := decide) only [up_n, up_s]; exact c9
              · simp (disch := decide) only [up_n, up_s]; exact c10
              · intro z; exact absurd rfl z
              · intro z; rcases z with z | z <;> cases z
              · intro z; cases z
              · intro j hj
                rw [pk_un (by omega)]
          · rw [if_pos e4] at e0
            refine br_t rfl ?_
            refine H (p + 2) (q + 1) (by omega) _ ?_
            rw [e0]
            exact ⟨cn, ce, re, et, ex, ey, ep, sv, sh, fr, h1, h2, fun z => (by cases z), fun z => (by cases z), fun z => (by cases z), rfl⟩
        · rw [if_pos (by omega)] at e0
          refine x_raise (17 * r.length) hbb ?_
          exact RAI 7 _ e0
      · rw [if_pos e2] at e0
        refine x_raise (17 * r.length) hbb ?_
        exact RAI 9 _ e0
  · rw [o]
    repeat first | refine br_t (by decide) ?_ | refine br_f (by decide) ?_
    rw [d5 (by rw [o]; decide)]
    have hA := har.2.2.2.2.2 (by omega)
    refine ⟨vp_in_nI n4 (by decide), ?_⟩
    rw [nI_clamp (by omega), y5 (Or.inr (by unfold fo_ma; omega))]
    have e0 := AP o
    have e0 : m_app g ((nd, ev, 0, []), (gt, x0, x1, x2), (la, 0, bx, ty), dt, sc, sr, tg, pl) r s = (if x0 < 0 ∨ 16 ≤ x0 then m_raise g ((nd, ev, 0, []), (gt, x0, x1, x2), (la, 0, bx, ty), dt, sc, sr, tg, pl) r 6 x0 s else m_dlv r (sCe s (16 * gA g nd + x0.toNatClampNeg)) s) := e0
    refine fb_if Iff.rfl (fun e => ?_) (fun e => ?_)
    · rw [if_pos (Or.inl e)] at e0
      refine br_t rfl ?_
      refine x_raise (17 * r.length) hbb ?_
      exact RAI 6 x0 e0
    · refine fb_if Iff.rfl (fun e2 => ?_) (fun e2 => ?_)
      · rw [if_pos (Or.inr e2)] at e0
        refine br_t rfl ?_
        refine x_raise (17 * r.length) hbb ?_
        exact RAI 6 x0 e0
      · rw [if_neg (by rintro (z | z); exact e z; exact e2 z)] at e0
        obtain ⟨j, hj, rfl⟩ := fb_lt 0 16 e e2 (by decide) (by decide)
        rw [Nat.zero_add] at *
        rw [nI_clamp (by omega)] at e0
        refine br_f (by decide) ?_
        have ei : nI (gA g nd) * 16 + nI j = nI (16 * gA g nd + j) := by
          rw [show (16 : Int32) = nI 16 from rfl, pk_mul, nI_add, Nat.mul_comm]
        refine nm_r ei ?_
        refine xx_n (by omega) ?_
        refine x_kb hA ?_
        rw [x_add0, hs.2 _ _ hA (by omega)]
        refine ⟨vp_in_nI (by omega) (by decide), ?_⟩
        rw [nI_clamp (by omega), x_upd_id]
        refine nm_e ?_
        exact FIN _ e0
  · rw [o]
    repeat first | refine br_t (by decide) ?_ | refine br_f (by decide) ?_
    rw [d5 (by rw [o]; decide), d6 (by rw [o]; decide)]
    have hA := har.2.2.2.2.2 (by omega)
    refine ⟨vp_in_nI n4 (by decide), ?_⟩
    rw [nI_clamp (by omega), y5 (Or.inr (by unfold fo_ma; omega))]
    have e0 := AP o
    have e0 : m_app g ((nd, ev, 0, []), (gt, x0, x1, x2), (la, 0, bx, ty), dt, sc, sr, tg, pl) r s = (if x0 < 0 ∨ 16 ≤ x0 then m_raise g ((nd, ev, 0, []), (gt, x0, x1, x2), (la, 0, bx, ty), dt, sc, sr, tg, pl) r 6 x0 s else m_dlv r (sCe s (16 * gA g nd + x0.toNatClampNeg)) (s_ce s (upd (sCe s) (16 * gA g nd + x0.toNatClampNeg) (m_kb (gA g nd) (sCe s (16 * gA g nd + x0.toNatClampNeg) + x1))))) := e0
    refine fb_if Iff.rfl (fun e => ?_) (fun e => ?_)
    · rw [if_pos (Or.inl e)] at e0
      refine br_t rfl ?_
      refine x_raise (17 * r.length) hbb ?_
      exact RAI 6 x0 e0
    · refine fb_if Iff.rfl (fun e2 => ?_) (fun e2 => ?_)
      · rw [if_pos (Or.inr e2)] at e0
        refine br_t rfl ?_
        refine x_raise (17 * r.length) hbb ?_
        exact RAI 6 x0 e0
      · rw [if_neg (by rintro (z | z); exact e z; exact e2 z)] at e0
        obtain ⟨j, hj, rfl⟩ := fb_lt 0 16 e e2 (by decide) (by decide)
        rw [Nat.zero_add] at *
        rw [nI_clamp (by omega)] at e0
        refine br_f (by decide) ?_
        have ei : nI (gA g nd) * 16 + nI j = nI (16 * gA g nd + j) := by
          rw [show (16 : Int32) = nI 16 from rfl, pk_mul, nI_add, Nat.mul_comm]
        refine nm_r ei ?_
        refine xx_n (by omega) ?_
        refine x_kb hA ?_
        refine ⟨vp_in_nI (by omega) (by decide), ?_⟩
        rw [nI_clamp (by omega)]
        refine nm_e ?_
        exact FIN' _ (s_ce s (upd (sCe s) (16 * gA g nd + j) (m_kb (gA g nd) (sCe s (16 * gA g nd + j) + x1)))) r sv sh _ _ e0 rfl h1 h2
  · rw [o]
    repeat first | refine br_t (by decide) ?_ | refine br_f (by decide) ?_
    refine xx_n n4 ?_
    rw [y5 (Or.inr (by unfold fo_ma; omega))]
    refine xx_n n4 ?_
    rw [y1, o]
    repeat first | refine br_t (by decide) ?_ | refine br_f (by decide) ?_
    have hA := har.2.1 (by omega)
    rw [x_sub8 (by omega)]
    refine ⟨vp_in_nI (by omega) (by decide), ?_⟩
    rw [nI_clamp (by omega)]
    have h1' := xSp_d rfl h1 (gA g nd - 8) (by omega)
    rw [show 8 + (gA g nd - 8) = gA g nd from by omega] at h1'
    have e0 := AP o
    have e0 : m_app g ((nd, ev, 0, []), (gt, x0, x1, x2), (la, 0, bx, ty), dt, sc, sr, tg, pl) r s = m_dlv r (match m_cur (sGl s) (gA g nd) r with
      | some _ => 1
      | none => 0) s := e0
    cases hm : m_cur (sGl s) (gA g nd) r with
    | none =>
      rw [hm] at e0 h1'
      exact br_t h1' (FIN 0 e0)
    | some x =>
      rw [hm] at e0 h1'
      refine br_f ?_ (FIN 1 e0)
      rw [h1'.1]
      decide
end
