/-! the class's side: a search's step, an exit's step, every step, the run -/
section
variable {g : mG} {V : Nat → Prop} {Z : Nat → Nat} {pa : Nat → Option Nat} {T : Nat} {f_openCount f_typeCount : Int32} {a_nodeOp a_nodeA a_nodeB a_nodeParts a_nodeSize a_slotSize a_slotParams a_openLists a_typeParent : Nat → Int32} {s : St} {n : Nat} {ca inf mo cn ce re et ex ey ep v : Int32} {sv sh fr : Nat → Int32} {l r : List Fr} {f : Fr} {P : SX → Prop} {post : Int32 → SX → Prop} {N i p q : Nat}
theorem w_bd48 {f : Fr} (h : w_bd g f) (hp : fr_ph f = 4 ∨ fr_ph f = 8) : fr_bv f = 0 := by
  rcases h with z | ⟨_, _, z⟩
  · exact z
  · omega
theorem w_48 {ph : Nat} (hp : ph = 4 ∨ ph = 8) : ph ≠ 7 ∧ ph ≠ 6 ∧ ph ≠ 1 ∧ ph ≠ 3 := by omega
theorem xF_sc {gl : Nat → Option Int32} {b h : Nat} {t : List (Nat × Nat × Nat)} {nd ev ph gt ty sr : Nat} {rm : List Nat} {x0 x1 x2 la bx dt pl : Int32} {sc : List (Nat × Nat × Nat)} {tg : Option Nat} (hp : ph = 4 ∨ ph = 8) (H : xF g fr gl b ((nd, ev, ph, rm), (gt, x0, x1, x2), (la, 0, bx, ty), dt, sc, sr, tg, pl) r) : xF g (upd fr (b + 15) (x_ix t)) gl b ((nd, ev, ph, rm), (gt, x0, x1, x2), (la, 0, bx, ty), dt, t, h, tg, pl) r := by
  obtain ⟨hne7, hne6, hne1, hne3⟩ := w_48 hp
  obtain ⟨c0, c1, c2, c3, c4, c5, c6, c7, c8, c9, c10, c11, c12, c13⟩ := H
  obtain ⟨d13, d14, d15⟩ := c12 hp
  refine ⟨?_, ?_, ?_, ?_, ?_, ?_, ?_, ?_, ?_, ?_, ?_, ?_, ?_, ?_⟩
  · simp (disch := decide) only [up_n, up_s]; exact c0
  · simp (disch := decide) only [up_n, up_s]; exact c1
  · simp (disch := decide) only [up_n, up_s]; exact c2
  · simp (disch := decide) only [up_n, up_s]; exact c3
  · simp (disch := decide) only [up_n, up_s]; exact c4
  · simp (disch := decide) only [up_n, up_s]; exact c5
  · simp (disch := decide) only [up_n, up_s]; exact c6
  · simp (disch := decide) only [up_n, up_s]; exact c7
  · simp (disch := decide) only [up_n, up_s]; exact c8
  · simp (disch := decide) only [up_n, up_s]; exact c9
  · simp (disch := decide) only [up_n, up_s]; exact c10
  · intro y; exact absurd rfl y
  · intro _
    simp (disch := decide) only [up_n, up_s]
    exact ⟨d13, d14, trivial⟩
  · intro y; exact absurd y hne3
theorem x_srchR (G : g_w g V Z pa T) (X : xG g V Z f_openCount f_typeCount a_nodeOp a_nodeA a_nodeB a_nodeParts a_nodeSize a_slotSize a_slotParams a_openLists a_typeParent) {nd ev ph gt bv ty sr : Nat} {rm : List Nat} {x0 x1 x2 la bx dt pl : Int32} {sc : List (Nat × Nat × Nat)} {tg : Option Nat} (F : w_f g V Z pa 1 ((nd, ev, ph, rm), (gt, x0, x1, x2), (la, bv, bx, ty), dt, sc, sr, tg, pl) r) (W : w_l g V Z pa 1 r) (hp : ph = 4 ∨ ph = 8) (hs : w_s g s) (h1 : xSp sv sh (sGl s) (((nd, ev, ph, rm), (gt, x0, x1, x2), (la, bv, bx, ty), dt, sc, sr, tg, pl) :: r)) (h2 : xL g fr (sGl s) (((nd, ev, ph, rm), (gt, x0, x1, x2), (la, bv, bx, ty), dt, sc, sr, tg, pl) :: r)) (hi : i + 8 < 10000000) (H : ∀ p q, p + q = 8 → ∀ u', px_R g f_openCount f_typeCount a_nodeOp a_nodeA a_nodeB a_nodeParts a_nodeSize a_slotSize a_slotParams a_openLists a_typeParent (m_srch g ((nd, ev, ph, rm), (gt, x0, x1, x2), (la, bv, bx, ty), dt, sc, sr, tg, pl) r s) u' → xR post (N + p) (i + q) u') : xR post (N + 8) i (xU g f_openCount f_typeCount a_nodeOp a_nodeA a_nodeB a_nodeParts a_nodeSize a_slotSize a_slotParams a_openLists a_typeParent x_z0 s (r.length + 1) (nI (m_fc r)) (x_ix (m_ch g r)) 5 cn ce re et ex ey ep sv sh fr) := by
  obtain ⟨hne7, hne6, hne1, hne3⟩ := w_48 hp
  obtain ⟨f1, f2, f3, f4, f5, f6, f7, f8, f9, f10⟩ := F
  have f1 : V nd := f1
  obtain ⟨n1, n2, n3, n4, _⟩ := G.1 nd f1
  have y1 := (X.1 nd f1).1
  obtain ⟨s1, s2, s3, s4, s50, _⟩ := f5 hp
  have s1 : sc <:+ m_ch g r := s1
  have s5 : ty ≤ 15 := s50
  have hlen := w_len (f9 hne7) (by show 1 ≤ Z nd; exact n2)
  have hL := h2.2
  have c0 : fr (17 * r.length + 0) = nI nd := h2.1.1
  obtain ⟨d13, d14, d15⟩ := h2.1.2.2.2.2.2.2.2.2.2.2.2.2.1 hp
  have hb : bv = 0 := w_bd48 f4 hp
  subst hb
  have hbb : 17 * r.length + 17 ≤ 11900 := by omega
  have hF : gF g ≤ 200 := G.2.2.2.2.2.2.1
  have efc : m_fc (((nd, ev, ph, rm), (gt, x0, x1, x2), (la, 0, bx, ty), dt, sc, sr, tg, pl) :: r) = m_fc r := w_fc_ne hne6
  have ech : m_ch g (((nd, ev, ph, rm), (gt, x0, x1, x2), (la, 0, bx, ty), dt, sc, sr, tg, pl) :: r) = m_ch g r := (if_neg hne7).trans (if_neg (fun z => hne1 z.1))
  have hiq : 2 * r.length + 4 * Z nd + w_kX g Z (m_ch g r) + 224 * (5 - m_fc r) ≤ 1400 := (f9 hne7).2
  clear f3 f4 f5 f6 f7 f8 f9 f10 s2 s3 s4
  refine x_go (N := N + 7) (by omega) (show ¬ (5 : Int32) = 7 by decide) ?_
  refine br_f (by decide) (br_f (by decide) (br_f (by decide) (br_f (by decide) (br_f (by decide) (br_f (by decide) (br_f (by decide) (br_t rfl ?_)))))))
  unfold wpX_searchClause
  dsimp only
  refine x_top r.length ?_
  refine xx_r 15 (by omega) ?_
  rw [d15]
  have hcl := (w_chl W)
  have hcl2 : sc.length ≤ (m_ch g r).length := s1.length_le
  refine ⟨701, ?_⟩
  refine x_sf (gl := sGl s) G X W hL (17 * r.length) ty hbb s5 d13 (by omega) sc s1 0 701 (by omega) (by omega) (fun hm => ?_) (fun h n e t hm => ?_)
  · have e0 : m_srch g ((nd, ev, ph, rm), (gt, x0, x1, x2), (la, 0, bx, ty), dt, sc, sr, tg, pl) r s = if gO g nd = 20 then m_dlv r 0 s else (3, dt, none, ty, m_pla nd, ((nd, ev, ph, rm), (gt, x0, x1, x2), (la, 0, bx, ty), dt, sc, sr, tg, pl) :: r, s) := by
      unfold m_srch
      rw [show m_sf g (fr_ty ((nd, ev, ph, rm), (gt, x0, x1, x2), (la, 0, bx, ty), dt, sc, sr, tg, pl)) (fr_sc ((nd, ev, ph, rm), (gt, x0, x1, x2), (la, 0, bx, ty), dt, sc, sr, tg, pl)) = none from hm]
      rfl
    rw [e0] at H
    refine xx_r 0 (by omega) ?_
    rw [c0]
    refine ⟨vp_in_nI n4 (by decide), ?_⟩
    rw [nI_clamp (by omega), y1]
    refine fb_if (nI_eq (b := 20) (by omega) (by decide)) (fun z => ?_) (fun z => ?_)
    · rw [if_pos z] at H
      exact x_finR (p := 6) (q := 1) (f := ((nd, ev, ph, rm), (gt, x0, x1, x2), (la, 0, bx, ty), dt, sc, sr, tg, pl)) (sv := sv) (sh := sh) (fr := fr) h1 h2 (Or.inl rfl) (by omega) hi rfl H
    · rw [if_neg z] at H
      refine xx_r 13 (by omega) ?_
      rw [d13]
      refine x_plc n4 ?_
      refine ⟨xx_i 14 (by omega), ?_⟩
      rw [xx_c 14 14 (by omega), d14]
      refine H 7 1 rfl _ ?_
      refine ⟨cn, ce, re, -1, dt, nI ty, m_pla nd, sv, sh, fr, h1, h2, fun z => (by cases z), fun z => (by cases z), fun _ => ⟨rfl, rfl, fun _ => ⟨rfl, rfl⟩⟩, ?_⟩
      show _ = xU g f_openCount f_typeCount a_nodeOp a_nodeA a_nodeB a_nodeParts a_nodeSize a_slotSize a_slotParams a_openLists a_typeParent _ s (r.length + 1) (nI (m_fc (((nd, ev, ph, rm), (gt, x0, x1, x2), (la, 0, bx, ty), dt, sc, sr, tg, pl) :: r))) (x_ix (m_ch g (((nd, ev, ph, rm), (gt, x0, x1, x2), (la, 0, bx, ty), dt, sc, sr, tg, pl) :: r))) _ _ _ _ _ _ _ _ _ _ _
      rw [efc, ech]
      rfl
  · obtain ⟨b1, b2⟩ := m_sf_some hm
    have b3 : ((h, n, e) :: t) <:+ m_ch g r := b1.trans s1
    obtain ⟨q, r', q1, q2, q3, q4, q5, q6, q7⟩ := w_link W b3
    obtain ⟨Q, QW⟩ := w_suf W q1
    have hxq := xL_at hL q1
    have hlen2 := q1.length_le
    have hlen2 : r'.length + 1 ≤ r.length := hlen2
    have hVn : V n := by rw [← q3]; exact Q.1
    have he : e ≤ 5 := by rw [← q4]; exact Q.2.1
    have k0 : fr (17 * h + 0) = nI n := by
      rw [← q2, ← q3]
      obtain ⟨⟨nd', ev', ph', rm'⟩, ⟨gt', x0', x1', x2'⟩, ⟨la', bv', bx', ty'⟩, dt', sc', sr', tg', pl'⟩ := q
      exact hxq.1
    have k1 : fr (17 * h + 1) = nI e := by
      rw [← q2, ← q4]
      obtain ⟨⟨nd', ev', ph', rm'⟩, ⟨gt', x0', x1', x2'⟩, ⟨la', bv', bx', ty'⟩, dt', sc', sr', tg', pl'⟩ := q
      exact hxq.2.1
    have k8 : fr (17 * h + 8) = x_ix t := by
      rw [← q2, ← q7]
      obtain ⟨⟨nd', ev', ph', rm'⟩, ⟨gt', x0', x1', x2'⟩, ⟨la', bv', bx', ty'⟩, dt', sc', sr', tg', pl'⟩ := q
      exact hxq.2.2.2.2.2.2.2.2.1
    obtain ⟨m1, m2, m3, m4, m5, _⟩ := G.1 n hVn
    have e0 : m_srch g ((nd, ev, ph, rm), (gt, x0, x1, x2), (la, 0, bx, ty), dt, sc, sr, tg, pl) r s = if gO g n = 17 then (3, dt, some h, 0, 0, ((nd, ev, ph, rm), (gt, x0, x1, x2), (la, 0, bx, ty), dt, sc, sr, tg, pl) :: r, s)
        else if gF g ≤ sBe s then (6, 0, none, 0, 0, ((nd, ev, ph, rm), (gt, x0, x1, x2), (la, 0, bx, ty), dt, t, h, tg, pl) :: r, s)
        else m_ev g ((gK g n).getD 0 0) e (((n, e, 7, []), (0, 0, 0, 0), (0, m_cv g n, dt, 0), 0, t, 0, none, 0) :: ((nd, ev, ph, rm), (gt, x0, x1, x2), (la, 0, bx, ty), dt, t, h, tg, pl) :: r) (m_cs g n e dt (s_be s (sBe s + 1))) := by
      unfold m_srch
      rw [show m_sf g (fr_ty ((nd, ev, ph, rm), (gt, x0, x1, x2), (la, 0, bx, ty), dt, sc, sr, tg, pl)) (fr_sc ((nd, ev, ph, rm), (gt, x0, x1, x2), (la, 0, bx, ty), dt, sc, sr, tg, pl)) = some ((h, n, e), t) from hm]
      rfl
    rw [e0] at H
    refine nm_r (x_mul17 h) ?_
    refine xx_r 0 (by omega) ?_
    rw [k0]
    refine xx_r 14 (by omega) ?_
    rw [d14]
    refine ⟨vp_in_nI m4 (by decide), ?_⟩
    rw [nI_clamp (by omega), (X.1 n hVn).1]
    refine fb_if (nI_eq (b := 17) (by omega) (by decide)) (fun z => ?_) (fun z => ?_)
    · rw [if_pos z] at H
      refine H 7 1 rfl _ ?_
      refine ⟨cn, ce, re, nI h, dt, ey, ep, sv, sh, fr, h1, h2, fun z => (by cases z), fun z => (by cases z), fun _ => ⟨rfl, rfl, fun z => (by cases z)⟩, ?_⟩
      show _ = xU g f_openCount f_typeCount a_nodeOp a_nodeA a_nodeB a_nodeParts a_nodeSize a_slotSize a_slotParams a_openLists a_typeParent _ s (r.length + 1) (nI (m_fc (((nd, ev, ph, rm), (gt, x0, x1, x2), (la, 0, bx, ty), dt, sc, sr, tg, pl) :: r))) (x_ix (m_ch g (((nd, ev, ph, rm), (gt, x0, x1, x2), (la, 0, bx, ty), dt, sc, sr, tg, pl) :: r))) _ _ _ _ _ _ _ _ _ _ _
      rw [efc, ech]
      rfl
    · rw [if_neg z] at H
      have hO16 : gO g n = 16 := by omega
      have hkx : (if gO g n = 16 then 4 * Z ((gK g n).getD 0 0) + 2 else 0) + w_kX g Z t ≤ w_kX g Z (m_ch g r) := (w_kY_suf (g := g) (Z := Z) b3).2
      rw [if_pos hO16] at hkx
      refine ⟨xx_i 8 (by omega), ?_⟩
      rw [xx_c 8 8 (by omega), k8]
      refine xx_w 15 (by omega) ?_
      have fF := xF_sc (t := t) (h := h) hp h2.1
      have fL : xL g (upd fr (17 * r.length + 15) (x_ix t)) (sGl s) (((nd, ev, ph, rm), (gt, x0, x1, x2), (la, 0, bx, ty), dt, t, h, tg, pl) :: r) := ⟨fF, xL_keep hL (fun j hj => by rw [pk_un (by omega)])⟩
      have efc' : m_fc (((nd, ev, ph, rm), (gt, x0, x1, x2), (la, 0, bx, ty), dt, t, h, tg, pl) :: r) = m_fc r := w_fc_ne hne6
      have ech' : m_ch g (((nd, ev, ph, rm), (gt, x0, x1, x2), (la, 0, bx, ty), dt, t, h, tg, pl) :: r) = m_ch g r := (if_neg hne7).trans (if_neg (fun z => hne1 z.1))
      refine x_beat hs.1 hF (fun w => ?_) (fun w => ?_)
      · rw [if_neg (by omega)] at H
        refine br_f (by decide) ?_
        refine ⟨xx_i 1 (by omega), ?_⟩
        rw [xx_c 1 1 (by omega), pk_un (by omega), k1]
        refine x_push (r.length + 1) n e (gK g n).length (m_fc r) m4 (by omega) (X.1 n hVn).2.1 ?_
        refine br_f (by decide) ?_
        obtain ⟨p0, p1, p2, p3, p4, p8, p9, p10⟩ := x_pf_c (fr := upd fr (17 * r.length + 15) (x_ix t)) (b := 17 * (r.length + 1)) (n := n) (e := e) (m := (gK g n).length) (inf := x_ix (m_ch g r)) (c := m_fc r)
        have pb : ∀ j, j < 17 * (r.length + 1) → x_pf (upd fr (17 * r.length + 15) (x_ix t)) (17 * (r.length + 1)) n e (gK g n).length (x_ix (m_ch g r)) (m_fc r) j = (upd fr (17 * r.length + 15) (x_ix t)) j := fun j hj => x_pf_b hj
        generalize x_pf (upd fr (17 * r.length + 15) (x_ix t)) (17 * (r.length + 1)) n e (gK g n).length (x_ix (m_ch g r)) (m_fc r) = fn at p0 p1 p2 p3 p4 p8 p9 p10 pb ⊢
        refine ⟨xx_i 8 (by omega), nm_e ?_⟩
        rw [pb _ (by omega), pk_un (by omega), k8]
        refine x_top (r.length + 1) ?_
        have hle : 1 ≤ (gK g n).length := fo_lst (G.1 n hVn) (by omega) (by rw [hO16]; rfl)
        obtain ⟨cl, cs, hK⟩ : ∃ a t, gK g n = a :: t := by
          cases hK : gK g n with
          | nil => rw [hK] at hle; exact absurd hle (by decide)
          | cons a t => exact ⟨a, t, rfl⟩
        have hcn := (x_K1 G hVn cl cs hK).1
        have hVc : V cl := (m5 cl (by rw [hK]; exact List.mem_cons_self ..)).1
        have eget : (gK g n).getD 0 0 = cl := by rw [hK]; rfl
        rw [eget] at H
        have gl1 := m_cs_gl (g := g) (n := n) (e := e) (v := dt) (s := s_be s (sBe s + 1))
        refine x_clR (r := ((nd, ev, ph, rm), (gt, x0, x1, x2), (la, 0, bx, ty), dt, t, h, tg, pl) :: r) (nd := n) (ev := e) (ph := 7) (gt := 0) (ty := 0) (sr := 0) (x0 := 0) (x1 := 0) (x2 := 0) (la := 0) (dt := 0) (pl := 0) (sc := t) (tg := none) (cl := cl) (s := s_be s (sBe s + 1)) (fr := fn) G X (Or.inr rfl) hVn he (by omega) (by omega) hcn (by show r.length + 1 < 700; omega) p0 p1 (by rw [ech']; exact p8) (by rw [efc']; exact p9) p10 (xL_keep fL pb) (xSp_c rfl (xSp_d rfl h1)) (fun sv' sh' fr' j1 j2 => ?_)
        have j1' := j1
        rw [show sGl (s_be s (sBe s + 1)) = sGl (m_cs g n e dt (s_be s (sBe s + 1))) from gl1.1.symm] at j1 j2
        exact x_pcR (p := 5) (q := 1) (r := ((nd, ev, ph, rm), (gt, x0, x1, x2), (la, 0, bx, ty), dt, t, h, tg, pl) :: r) (nd := n) (ev := e) (ph := 7) (gt := 0) (bv := m_cv g n) (ty := 0) (sr := 0) (x0 := 0) (x1 := 0) (x2 := 0) (la := 0) (bx := dt) (dt := 0) (pl := 0) (sc := t) (tg := none) (c := cl) (cs := []) (s := m_cs g n e dt (s_be s (sBe s + 1))) (sv := sv') (sh := sh') (fr := fr') G X (by decide) hVc he (fun c' cs' z => by cases z) j1 j2 (by show r.length + 1 + 1 < 700; omega) (by rw [gl1.2]; show sBe s + 1 ≤ gF g; omega) hi rfl (by
          show nI (m_fc r) = nI (m_fc (((nd, ev, ph, rm), (gt, x0, x1, x2), (la, 0, bx, ty), dt, t, h, tg, pl) :: r) + 0)
          rw [efc', Nat.add_zero]) rfl H
      · rw [if_pos w] at H
        refine br_t rfl ?_
        refine H 7 1 rfl _ ?_
        refine ⟨cn, ce, re, et, ex, ey, ep, sv, sh, upd fr (17 * r.length + 15) (x_ix t), xSp_c rfl (xSp_d rfl h1), fL, fun z => (by cases z), fun z => (by cases z), fun z => (by cases z), ?_⟩
        show _ = xU g f_openCount f_typeCount a_nodeOp a_nodeA a_nodeB a_nodeParts a_nodeSize a_slotSize a_slotParams a_openLists a_typeParent _ s (r.length + 1) (nI (m_fc (((nd, ev, ph, rm), (gt, x0, x1, x2), (la, 0, bx, ty), dt, t, h, tg, pl) :: r))) (x_ix (m_ch g (((nd, ev, ph, rm), (gt, x0, x1, x2), (la, 0, bx, ty), dt, t, h, tg, pl) :: r))) _ _ _ _ _ _ _ _ _ _ _
        rw [efc', ech']
        rfl
end
