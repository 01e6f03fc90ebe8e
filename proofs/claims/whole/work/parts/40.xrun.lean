/-! the class's side: an exit's step, every step, the run -/
section
variable {g : mG} {V : Nat → Prop} {Z : Nat → Nat} {pa : Nat → Option Nat} {T : Nat} {f_openCount f_typeCount : Int32} {a_nodeOp a_nodeA a_nodeB a_nodeParts a_nodeSize a_slotSize a_slotParams a_openLists a_typeParent : Nat → Int32} {s : St} {n : Nat} {ca inf mo cn ce re et ex ey ep v : Int32} {sv sh fr : Nat → Int32} {l r : List Fr} {f : Fr} {P : SX → Prop} {post : Int32 → SX → Prop} {N i p q : Nat}
theorem w_ln (G : g_w g V Z pa T) {w : Nat} {l : List Fr} (W : w_l g V Z pa w l) : l.length ≤ 700 := by
  cases l with
  | nil => exact Nat.zero_le _
  | cons f r =>
    by_cases e : fr_ph f = 7
    · obtain ⟨q0, r0, e0, p0, s0⟩ := W.1.2.2.2.2.2.1 e
      subst e0
      have := w_len (W.2.1.2.2.2.2.2.2.2.2.1 (w_48 p0).1) (G.1 _ W.2.1.1).2.1
      show r0.length + 1 + 1 ≤ 700
      omega
    · have := w_len (W.1.2.2.2.2.2.2.2.2.1 e) (G.1 _ W.1.1).2.1
      show r.length + 1 ≤ 700
      omega
theorem xF_hold {gl : Nat → Option Int32} {b t : Nat} {tgt : Option Nat} {p v ey ep : Int32} {nd ev gt ty sr : Nat} {rm : List Nat} {x0 x1 x2 la bx dt pl : Int32} {sc : List (Nat × Nat × Nat)} {tg : Option Nat} (H : xF g fr gl b ((nd, ev, 0, rm), (gt, x0, x1, x2), (la, 0, bx, ty), dt, sc, sr, tg, pl) r) (hh : tgt = none → ey = nI t ∧ ep = p) : xF g (upd (upd (upd (upd (upd fr (b + 2) 3) (b + 15) (x_tg tgt)) (b + 14) v) (b + 13) ey) (b + 16) ep) gl b ((nd, ev, 3, rm), (1, x0, x1, x2), (la, 0, bx, t), v, sc, sr, tgt, p) r := by
  obtain ⟨c0, c1, c2, c3, c4, c5, c6, c7, c8, c9, c10, c11, c12, c13⟩ := H
  refine ⟨?_, ?_, ?_, ?_, ?_, ?_, ?_, ?_, ?_, ?_, ?_, ?_, ?_, ?_⟩
  · simp (disch := decide) only [up_n, up_s]; exact c0
  · simp (disch := decide) only [up_n, up_s]; exact c1
  · simp (disch := decide) only [up_n, up_s]; rfl
  · simp (disch := decide) only [up_n, up_s]; exact c3
  · simp (disch := decide) only [up_n, up_s]; exact c4
  · intro z; rcases z with z | z | ⟨z, _⟩ <;> cases z
  · intro z; cases z
  · intro z; cases z
  · simp (disch := decide) only [up_n, up_s]; exact c8
  · simp (disch := decide) only [up_n, up_s]; exact c9
  · simp (disch := decide) only [up_n, up_s]; exact c10
  · intro y; exact absurd rfl y
  · intro z; rcases z with z | z <;> cases z
  · intro _
    simp (disch := decide) only [up_n, up_s]
    exact ⟨trivial, trivial, hh⟩
theorem x_exitR (G : g_w g V Z pa T) (X : xG g V Z f_openCount f_typeCount a_nodeOp a_nodeA a_nodeB a_nodeParts a_nodeSize a_slotSize a_slotParams a_openLists a_typeParent) {nd ev ph gt bv ty sr : Nat} {rm : List Nat} {x0 x1 x2 la bx dt pl : Int32} {sc : List (Nat × Nat × Nat)} {tg : Option Nat} {tgt : Option Nat} {t : Nat} {pp : Int32} (FW : w_l g V Z pa 1 (((nd, ev, ph, rm), (gt, x0, x1, x2), (la, bv, bx, ty), dt, sc, sr, tg, pl) :: r) ∨ w_l g V Z pa 0 (((nd, ev, ph, rm), (gt, x0, x1, x2), (la, bv, bx, ty), dt, sc, sr, tg, pl) :: r) ∧ (gO g nd = 12 ∨ gO g nd = 14 ∨ gO g nd = 19)) (ht : w_tg g tgt (((nd, ev, ph, rm), (gt, x0, x1, x2), (la, bv, bx, ty), dt, sc, sr, tg, pl) :: r)) (hs : w_s g s) (h1 : xSp sv sh (sGl s) (((nd, ev, ph, rm), (gt, x0, x1, x2), (la, bv, bx, ty), dt, sc, sr, tg, pl) :: r)) (h2 : xL g fr (sGl s) (((nd, ev, ph, rm), (gt, x0, x1, x2), (la, bv, bx, ty), dt, sc, sr, tg, pl) :: r)) (hh : tgt = none → ey = nI t ∧ ep = pp) (hi : i + 8 < 10000000) (H : ∀ p q, p + q = 8 → ∀ u', px_R g f_openCount f_typeCount a_nodeOp a_nodeA a_nodeB a_nodeParts a_nodeSize a_slotSize a_slotParams a_openLists a_typeParent (m_exit g v tgt t pp ((nd, ev, ph, rm), (gt, x0, x1, x2), (la, bv, bx, ty), dt, sc, sr, tg, pl) r s) u' → xR post (N + p) (i + q) u') : xR post (N + 8) i (xU g f_openCount f_typeCount a_nodeOp a_nodeA a_nodeB a_nodeParts a_nodeSize a_slotSize a_slotParams a_openLists a_typeParent x_z0 s (r.length + 1) (nI (m_fc (((nd, ev, ph, rm), (gt, x0, x1, x2), (la, bv, bx, ty), dt, sc, sr, tg, pl) :: r))) (x_ix (m_ch g (((nd, ev, ph, rm), (gt, x0, x1, x2), (la, bv, bx, ty), dt, sc, sr, tg, pl) :: r))) 6 cn ce re (x_tg tgt) v ey ep sv sh fr) := by
  have hlen : r.length + 1 ≤ 700 := by
    rcases FW with z | z
    · exact w_ln G z
    · exact w_ln G z.1
  have f1 : V nd := by
    rcases FW with z | z
    · exact z.1.1
    · exact z.1.1.1
  have f2 : ev ≤ 5 := by
    rcases FW with z | z
    · exact z.1.2.1
    · exact z.1.1.2.1
  have f4 : w_bd g ((nd, ev, ph, rm), (gt, x0, x1, x2), (la, bv, bx, ty), dt, sc, sr, tg, pl) := by
    rcases FW with z | z
    · exact z.1.2.2.2.1
    · exact z.1.1.2.2.2.1
  have hph : ph < 9 := by
    have f3 : w_lk g 1 ((nd, ev, ph, rm), (gt, x0, x1, x2), (la, bv, bx, ty), dt, sc, sr, tg, pl) ∨ w_lk g 0 ((nd, ev, ph, rm), (gt, x0, x1, x2), (la, bv, bx, ty), dt, sc, sr, tg, pl) := by
      rcases FW with z | z
      · exact Or.inl z.1.2.2.1
      · exact Or.inr z.1.1.2.2.1
    rcases f3 with h | h
    · rcases h with h | h | h | h | h | h | h | h | h | h <;> omega
    · rcases h with h | h | h | h | h | h | h | h | h | h <;> omega
  obtain ⟨n1, n2, n3, n4, n5, _⟩ := G.1 nd f1
  have y1 := (X.1 nd f1).1
  have hL := h2.2
  have c0 : fr (17 * r.length + 0) = nI nd := h2.1.1
  have c1 : fr (17 * r.length + 1) = nI ev := h2.1.2.1
  have c2 : fr (17 * r.length + 2) = nI (if ph = 8 then 4 else ph) := h2.1.2.2.1
  have c8 : fr (17 * r.length + 8) = x_ix (m_ch g r) := h2.1.2.2.2.2.2.2.2.2.1
  have c9 : fr (17 * r.length + 9) = nI (m_fc r) := h2.1.2.2.2.2.2.2.2.2.2.1
  have c10 : fr (17 * r.length + 10) = nI bv := h2.1.2.2.2.2.2.2.2.2.2.2.1
  have hbb : 17 * r.length + 17 ≤ 11900 := by omega
  have e0 : m_exit g v tgt t pp ((nd, ev, ph, rm), (gt, x0, x1, x2), (la, bv, bx, ty), dt, sc, sr, tg, pl) r s = if tgt = some r.length then
      (if gO g nd = 17 ∨ gO g nd = 18 then m_ev g ((gK g nd).getD 0 0) ev (((nd, ev, 5, []), (0, x0, x1, x2), (la, m_cv g nd, v, ty), dt, sc, sr, tg, pl) :: r) (m_cs g nd ev v s)
      else m_dlv r v s)
    else if ph = 0 ∧ gO g nd = 15 then (0, 0, none, 0, 0, ((nd, ev, 3, rm), (1, x0, x1, x2), (la, bv, bx, t), v, sc, sr, tgt, pp) :: r, s)
    else (3, v, tgt, t, pp, r, s) := rfl
  rw [e0] at H
  refine x_go (N := N + 7) (by omega) (show ¬ (6 : Int32) = 7 by decide) ?_
  refine br_f (by decide) (br_t (by decide) ?_)
  refine br_f (xx_ne (a := r.length + 1) (b := 0) (by omega) (by omega) (by decide)) ?_
  refine x_top r.length ?_
  rw [nI_pred]
  by_cases ha : tgt = some r.length
  · rw [if_pos ha] at H
    subst ha
    obtain ⟨t1, t2⟩ := w_tg_t ht
    have t1 : ph = 1 := t1
    subst t1
    refine br_t rfl ?_
    refine ⟨xx_i 0 (by omega), ?_⟩
    rw [xx_c 0 0 (by omega), c0]
    refine xx_n n4 ?_
    rw [y1]
    have arr : gO g nd = 17 ∨ gO g nd = 18 → wX_arrive_26 (fun u => xR post (N + 7) (i + 1) u) (nI (17 * r.length)) f_openCount f_typeCount (nI (sPr s)) (nI (gD g)) (nI (gF g)) (x_z0.1) (x_z0.2.1) (x_z0.2.2.1) (x_z0.2.2.2.1) (x_z0.2.2.2.2) (nI (sBe s)) (nI (r.length + 1)) 6 cn ce re (nI (m_fc (((nd, ev, 1, rm), (gt, x0, x1, x2), (la, bv, bx, ty), dt, sc, sr, tg, pl) :: r))) (x_ix (m_ch g (((nd, ev, 1, rm), (gt, x0, x1, x2), (la, bv, bx, ty), dt, sc, sr, tg, pl) :: r))) (x_tg (some r.length)) v ey ep a_nodeOp a_nodeA a_nodeB a_nodeParts a_nodeSize a_slotSize a_slotParams a_openLists a_typeParent (sCe s) (sLo s) sv sh (sOu s) fr := by
      intro o
      rw [if_pos o] at H
      have hb : bv = 0 := by
        rcases f4 with z | ⟨_, _, z⟩
        · exact z
        · rcases z with ⟨_, z⟩ | z | z
          · have z : gO g nd = 9 := z
            omega
          · cases z
          · cases z
      subst hb
      have hle : 1 ≤ (gK g nd).length := fo_lst (G.1 nd f1) (by omega) (by unfold fo_least; rw [if_neg (by omega), if_neg (by omega), if_neg (by omega)])
      obtain ⟨cl, cs, hK⟩ : ∃ a t, gK g nd = a :: t := by
        cases hK : gK g nd with
        | nil => rw [hK] at hle; exact absurd hle (by decide)
        | cons a t => exact ⟨a, t, rfl⟩
      have hcn := (x_K1 G f1 cl cs hK).1
      have hVc : V cl := (n5 cl (by rw [hK]; exact List.mem_cons_self ..)).1
      have eget : (gK g nd).getD 0 0 = cl := by rw [hK]; rfl
      rw [eget] at H
      have gl1 := m_cs_gl (g := g) (n := nd) (e := ev) (v := v) (s := s)
      have hr2 : r.length + 2 ≤ 700 := by
        rcases FW with z | z
        · exact w_len (z.1.2.2.2.2.2.2.2.2.1 (by show (1 : Nat) ≠ 7; decide)) (by show 1 ≤ Z nd; exact n2)
        · exact w_len (z.1.1.2.2.2.2.2.2.2.2.1 (by show (1 : Nat) ≠ 7; decide)) (by show 1 ≤ Z nd; exact n2)
      refine xx_r 8 (by omega) ?_
      rw [c8]
      refine x_clR (r := r) (ph := 5) (gt := 0) (ty := ty) (sr := sr) (x0 := x0) (x1 := x1) (x2 := x2) (la := la) (dt := dt) (pl := pl) (sc := sc) (tg := tg) (cl := cl) (s := s) (fr := fr) G X (Or.inl rfl) f1 f2 (by omega) (by omega) hcn (by omega) c0 c1 c8 c9 c10 hL (xSp_d rfl h1) (fun sv' sh' fr' j1 j2 => ?_)
      rw [show sGl s = sGl (m_cs g nd ev v s) from gl1.1.symm] at j1 j2
      exact x_pcR (p := 5) (q := 1) (r := r) (ph := 5) (gt := 0) (bv := m_cv g nd) (bx := v) (c := cl) (cs := []) (s := m_cs g nd ev v s) (sv := sv') (sh := sh') (fr := fr') G X (by decide) hVc f2 (fun c' cs' z => by cases z) j1 j2 (by omega) (by rw [gl1.2]; exact hs.1) hi rfl rfl rfl H
    refine fb_if (nI_eq (b := 17) (by omega) (by decide)) (fun o => arr (Or.inl o)) (fun o => ?_)
    refine fb_if (nI_eq (b := 18) (by omega) (by decide)) (fun o2 => arr (Or.inr o2)) (fun o2 => ?_)
    rw [if_neg (by omega)] at H
    exact x_finR (p := 6) (q := 1) (f := ((nd, ev, 1, rm), (gt, x0, x1, x2), (la, bv, bx, ty), dt, sc, sr, tg, pl)) (sv := sv) (sh := sh) (fr := fr) h1 h2 (w_bdv f4) (by omega) hi rfl H
  · rw [if_neg ha] at H
    have htr := w_tg_r ht ha
    have POP : ¬ (ph = 0 ∧ gO g nd = 15) → wX_leaveFrame_75 (fun u => xR post (N + 7) (i + 1) u) f_openCount f_typeCount (nI (sPr s)) (nI (gD g)) (nI (gF g)) (x_z0.1) (x_z0.2.1) (x_z0.2.2.1) (x_z0.2.2.2.1) (x_z0.2.2.2.2) (nI (sBe s)) (nI (r.length + 1)) 6 cn ce re (nI (m_fc (((nd, ev, ph, rm), (gt, x0, x1, x2), (la, bv, bx, ty), dt, sc, sr, tg, pl) :: r))) (x_ix (m_ch g (((nd, ev, ph, rm), (gt, x0, x1, x2), (la, bv, bx, ty), dt, sc, sr, tg, pl) :: r))) (x_tg tgt) v ey ep a_nodeOp a_nodeA a_nodeB a_nodeParts a_nodeSize a_slotSize a_slotParams a_openLists a_typeParent (sCe s) (sLo s) sv sh (sOu s) fr := by
      intro o
      rw [if_neg o] at H
      refine x_pop (f := ((nd, ev, ph, rm), (gt, x0, x1, x2), (la, bv, bx, ty), dt, sc, sr, tg, pl)) h1 h2 (w_bdv f4) (by omega) (fun sv' sh' hs' => ?_)
      refine H 7 1 rfl _ ?_
      exact ⟨cn, ce, re, x_tg tgt, v, ey, ep, sv', sh', fr, hs', hL, fun z => (by cases z), fun z => (by cases z), fun _ => ⟨rfl, rfl, hh⟩, rfl⟩
    refine br_f (x_tgr htr (by omega)) ⟨xx_i 2 (by omega), ?_⟩
    rw [xx_c 2 2 (by omega), c2]
    have e1 : nI (if ph = 8 then 4 else ph) = 0 ↔ ph = 0 := by
      rw [show (0 : Int32) = nI 0 from rfl, nI_eq (by split <;> omega) (by decide)]
      split <;> omega
    refine fb_if e1 (fun z => ?_) (fun z => POP (fun y => z y.1))
    refine ⟨xx_i 0 (by omega), ?_⟩
    rw [xx_c 0 0 (by omega), c0]
    refine ⟨vp_in_nI n4 (by decide), ?_⟩
    rw [nI_clamp (by omega), y1]
    refine fb_if (nI_eq (b := 15) (by omega) (by decide)) (fun o => ?_) (fun o => POP (fun y => o y.2))
    rw [if_pos ⟨z, o⟩] at H
    subst z
    have hb : bv = 0 := by
      rcases f4 with z | ⟨_, _, z⟩
      · exact z
      · rcases z with ⟨z, _⟩ | z | z <;> cases z
    subst hb
    refine xx_w 2 (by omega) ?_
    refine xx_w 15 (by omega) ?_
    refine xx_w 14 (by omega) ?_
    refine xx_w 13 (by omega) ?_
    refine xx_w 16 (by omega) ?_
    refine H 7 1 rfl _ ?_
    refine ⟨cn, ce, re, x_tg tgt, v, ey, ep, sv, sh, upd (upd (upd (upd (upd fr (17 * r.length + 2) 3) (17 * r.length + 15) (x_tg tgt)) (17 * r.length + 14) v) (17 * r.length + 13) ey) (17 * r.length + 16) ep, xSp_c rfl (xSp_d rfl h1), ⟨xF_hold h2.1 hh, xL_keep hL ?_⟩, fun _ f r z z1 => (by injection z with z2 z3; rw [← z2] at z1; cases z1), fun z => (by cases z), fun z => (by cases z), rfl⟩
    intro j hj
    rw [pk_un (by omega), pk_un (by omega), pk_un (by omega), pk_un (by omega), pk_un (by omega)]
end
