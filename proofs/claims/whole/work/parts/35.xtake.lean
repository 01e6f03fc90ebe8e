/-! the class's side: going on, taking a value -/
section
variable {g : mG} {V : Nat → Prop} {Z : Nat → Nat} {pa : Nat → Option Nat} {T : Nat} {f_openCount f_typeCount : Int32} {a_nodeOp a_nodeA a_nodeB a_nodeParts a_nodeSize a_slotSize a_slotParams a_openLists a_typeParent : Nat → Int32} {s : St} {n : Nat} {ca inf mo cn ce re et ex ey ep v : Int32} {sv sh fr : Nat → Int32} {l r : List Fr} {f : Fr} {P : SX → Prop} {post : Int32 → SX → Prop} {N i p q : Nat}
theorem x_tgr {tgt : Option Nat} {r : List Fr} (h : w_tg g tgt r) (hl : r.length < 700) : ¬ nI r.length = x_tg tgt := by
  cases tgt with
  | none =>
    intro z
    have : (0 : Int32) ≤ -1 := by
      show (0 : Int32) ≤ x_tg none
      rw [← z]; exact nI_pos' (by omega)
    exact absurd this (by decide)
  | some k =>
    obtain ⟨q, r', a1, a2, _⟩ := h k rfl
    have := a1.length_le
    have : r'.length + 1 ≤ r.length := this
    exact xx_ne (by omega) (by omega) (by omega)
theorem fo_ph (ph : Nat) (h : ph < 9) (h4 : ph ≠ 4) (h8 : ph ≠ 8) : ph = 0 ∨ ph = 1 ∨ ph = 2 ∨ ph = 3 ∨ ph = 5 ∨ ph = 6 ∨ ph = 7 := by omega
theorem x_proR (G : g_w g V Z pa T) (X : xG g V Z f_openCount f_typeCount a_nodeOp a_nodeA a_nodeB a_nodeParts a_nodeSize a_slotSize a_slotParams a_openLists a_typeParent) {nd ev ph gt bv ty sr : Nat} {rm : List Nat} {x0 x1 x2 la bx dt pl : Int32} {sc : List (Nat × Nat × Nat)} {tg : Option Nat} (F : w_f g V Z pa 0 ((nd, ev, ph, rm), (gt, x0, x1, x2), (la, bv, bx, ty), dt, sc, sr, tg, pl) r) (W : w_l g V Z pa 1 r) (h4 : ph ≠ 4) (h8 : ph ≠ 8) (hfr : m_fc r ≤ gD g) (hl : r.length < 700) (hs : w_s g s) (hpr : sPr s < 1000000) (h1 : xSp sv sh (sGl s) (((nd, ev, ph, rm), (gt, x0, x1, x2), (la, bv, bx, ty), dt, sc, sr, tg, pl) :: r)) (h2 : xL g fr (sGl s) (((nd, ev, ph, rm), (gt, x0, x1, x2), (la, bv, bx, ty), dt, sc, sr, tg, pl) :: r)) (hla : (ph = 1 ∨ 5 ≤ ph) → rm = [] → gO g nd ≠ 10 → re = la) (hi : i + 8 < 10000000) (hpq : p + 4 + q = 8) (H : ∀ p q, p + q = 8 → ∀ u', px_R g f_openCount f_typeCount a_nodeOp a_nodeA a_nodeB a_nodeParts a_nodeSize a_slotSize a_slotParams a_openLists a_typeParent (m_pro g ((nd, ev, ph, rm), (gt, x0, x1, x2), (la, bv, bx, ty), dt, sc, sr, tg, pl) r s) u' → xR post (N + p) (i + q) u') : xR post (N + (p + 4)) (i + q) (xU g f_openCount f_typeCount a_nodeOp a_nodeA a_nodeB a_nodeParts a_nodeSize a_slotSize a_slotParams a_openLists a_typeParent x_z0 s (r.length + 1) (nI (m_fc (((nd, ev, ph, rm), (gt, x0, x1, x2), (la, bv, bx, ty), dt, sc, sr, tg, pl) :: r))) (x_ix (m_ch g (((nd, ev, ph, rm), (gt, x0, x1, x2), (la, bv, bx, ty), dt, sc, sr, tg, pl) :: r))) 1 cn ce re et ex ey ep sv sh fr) := by
  have F' := F
  obtain ⟨f1, f2, f3, f4, f5, f6, f7, f8, f9, f10⟩ := F'
  have f1 : V nd := f1
  have f2 : ev ≤ 5 := f2
  have NN := G.1 nd f1
  obtain ⟨n1, n2, n3, n4, n5, n6, n7, n8, n9, n10, n11⟩ := NN
  cases rm with
  | cons c cs =>
    obtain ⟨p1, p2⟩ := w_lk_ph f3
    have hc : c ∈ gK g nd := by
      rcases w_lk_cons f3 with z | ⟨_, z, j, z1, z2⟩
      · exact z.2
      · have := fo_lst (k := 3) (G.1 nd f1) (by omega) (by rw [z]; rfl)
        rw [z2]; exact fo_getj (by omega)
    have hlen := w_len (f9 (by show ph ≠ 7; omega)) (by show 1 ≤ Z nd; exact n2)
    have hk := (w_ks G (n := nd) f1).2.1
    have hrm := w_rml f3
    have hrm : cs.length + 1 ≤ (gK g nd).length + 1 := hrm
    exact x_pcR (p := p + 2) (q := q) G X (by omega) (n5 c hc).1 f2 (w_nxt G f1 f3) h1 h2 (by omega) hs.1 hi (by omega) rfl rfl H
  | nil =>
    have h2' := h2
    obtain ⟨⟨c0, c1, c2, c3, c4, c5, c6, c7, c8, c9, c10, c11, c12, c13⟩, hL⟩ := h2'
    have c4 : fr (17 * r.length + 4) = nI 0 := c4
    have hbb : 17 * r.length + 17 ≤ 11900 := by omega
    obtain ⟨y1, y2, y3, y4, y5, y6, y7, y8⟩ := X.1 nd f1
    have hF : gF g ≤ 200 := G.2.2.2.2.2.2.1
    have hph : ph < 9 := by
      rcases f3 with h | h | h | h | h | h | h | h | h | h <;> omega
    have FIN : ∀ v, (∀ p q, p + q = 8 → ∀ u', px_R g f_openCount f_typeCount a_nodeOp a_nodeA a_nodeB a_nodeParts a_nodeSize a_slotSize a_slotParams a_openLists a_typeParent (m_dlv r v s) u' → xR post (N + p) (i + q) u') → xR post (N + (p + 3)) (i + (q + 1)) (xU g f_openCount f_typeCount a_nodeOp a_nodeA a_nodeB a_nodeParts a_nodeSize a_slotSize a_slotParams a_openLists a_typeParent x_z0 s (r.length + 1) (nI (m_fc (((nd, ev, ph, []), (gt, x0, x1, x2), (la, bv, bx, ty), dt, sc, sr, tg, pl) :: r))) (x_ix (m_ch g (((nd, ev, ph, []), (gt, x0, x1, x2), (la, bv, bx, ty), dt, sc, sr, tg, pl) :: r))) 3 cn ce v et ex ey ep sv sh fr) := fun v H => x_finR (p := p + 2) (q := q + 1) h1 h2 (w_bdv f4) hl hi (by omega) H
    refine x_go (by omega) (show ¬ (1 : Int32) = 7 by decide) ?_
    refine br_f (by decide) (br_f (by decide) (br_f (by decide) (br_t rfl ?_)))
    unfold wpX_proceed
    dsimp only
    refine x_top r.length ?_
    refine ⟨xx_i 4 (by omega), ?_⟩
    rw [xx_c 4 4 (by omega), c4]
    refine br_t (by decide) ?_
    refine xx_r 2 (by omega) ?_
    rw [c2]
    have hcase := fo_ph ph hph h4 h8
    rcases hcase with rfl | rfl | rfl | rfl | rfl | rfl | rfl
    · repeat first | refine br_t (by decide) ?_ | refine br_f (by decide) ?_
      exact x_appR (p := p) (q := q + 1) G X F W hfr hs hpr h1 h2 hi (by omega) H
    · repeat first | refine br_t (by decide) ?_ | refine br_f (by decide) ?_
      refine xx_r 0 (by omega) ?_
      rw [c0]
      refine ⟨vp_in_nI n4 (by decide), ?_⟩
      rw [nI_clamp (by omega), y1]
      refine fb_if (nI_eq (b := 10) (by omega) (by decide)) (fun o => ?_) (fun o => ?_)
      · have hb : bv = 0 := by
          rcases f4 with z | ⟨_, _, z⟩
          · exact z
          · rcases z with ⟨_, z⟩ | z | z
            · have z : gO g nd = 9 := z
              omega
            · cases z
            · cases z
        subst hb
        have ec : m_ch g (((nd, ev, 1, []), (gt, x0, x1, x2), (la, 0, bx, ty), dt, sc, sr, tg, pl) :: r) = m_ch g r := by
          show (if (1 : Nat) = 7 then sc else if (1 : Nat) = 1 ∧ (gO g nd = 16 ∨ gO g nd = 17) then (r.length, nd, ev) :: m_ch g r else m_ch g r) = m_ch g r
          rw [if_neg (by decide), if_neg (by omega)]
        have em : m_new g nd ev = ((nd, ev, 0, gK g nd), (0, 0, 0, 0), (0, 0, 0, 0), 0, [], 0, none, 0) := by
          unfold m_new
          rw [if_neg (by omega), if_neg (by omega)]
        have e0 : m_pro g ((nd, ev, 1, []), (gt, x0, x1, x2), (la, 0, bx, ty), dt, sc, sr, tg, pl) r s = (if sBe s < gF g then (0, 0, none, 0, 0, m_new g nd ev :: r, s_be s (sBe s + 1)) else (6, 0, none, 0, 0, ((nd, ev, 1, []), (gt, x0, x1, x2), (la, 0, bx, ty), dt, sc, sr, tg, pl) :: r, s)) := if_pos o
        rw [em] at e0
        refine x_round (17 * r.length) nd (gK g nd).length hbb n4 hs.1 hF c0 y2 (fun z => ?_) (fun z => ?_)
        · rw [if_pos z] at e0
          refine H (p + 3) (q + 1) (by omega) _ ?_
          rw [e0]
          refine ⟨cn, ce, re, et, ex, ey, ep, sv, sh, upd (upd (upd fr (17 * r.length + 2) 0) (17 * r.length + 3) (nI (nd + 1))) (17 * r.length + 4) (nI (gK g nd).length), xSp_c rfl (xSp_d rfl h1), ⟨?_, xL_keep hL ?_⟩, fun _ f r z z1 => (by injection z with z2 z3; rw [← z2] at z1; cases z1), fun z => (by cases z), fun z => (by cases z), ?_⟩
          · refine xF_new (by decide) ?_ ?_ ?_ (fun c cs z => ?_) ?_ ?_ ?_ ?_ <;> simp (disch := decide) only [up_n, up_s]
            · exact c0
            · exact c1
            · rfl
            · rw [(x_K1 G (n := nd) f1 c cs z).1]
            · exact c8
            · exact c9
            · exact c10
          · intro j hj
            rw [pk_un (by omega), pk_un (by omega), pk_un (by omega)]
          · rw [ec]; rfl
        · rw [if_neg (by omega)] at e0
          refine H (p + 3) (q + 1) (by omega) _ ?_
          rw [e0]
          exact ⟨cn, ce, re, et, ex, ey, ep, sv, sh, fr, h1, h2, fun z => (by cases z), fun z => (by cases z), fun z => (by cases z), rfl⟩
      · have e0 : m_pro g ((nd, ev, 1, []), (gt, x0, x1, x2), (la, bv, bx, ty), dt, sc, sr, tg, pl) r s = m_dlv r la s := if_neg o
        rw [hla (Or.inl rfl) rfl o]
        rw [e0] at H
        exact FIN la H
    · repeat first | refine br_t (by decide) ?_ | refine br_f (by decide) ?_
      have hgt : 0 < gt := by
        rcases f3 with h | h | h | h | h | h | h | h | h | h
        · omega
        · omega
        · omega
        · omega
        · exact h.2.2.1
        all_goals omega
      refine ⟨xx_i 5 (by omega), ?_⟩
      rw [xx_c 5 5 (by omega), c5 (Or.inr (Or.inl rfl)) hgt]
      exact FIN x0 H
    · repeat first | refine br_t (by decide) ?_ | refine br_f (by decide) ?_
      obtain ⟨g1, g2⟩ := f10 rfl
      have g1 : w_tg g tg r := g1
      obtain ⟨k1, k2, k3⟩ := c13 rfl
      have hb : bv = 0 := by
        rcases f4 with z | ⟨_, _, z⟩
        · exact z
        · rcases z with ⟨z, _⟩ | z | z <;> cases z
      subst hb
      refine xx_r 13 (by omega) ?_
      refine xx_r 16 (by omega) ?_
      refine ⟨xx_i 15 (by omega), xx_i 14 (by omega), ?_⟩
      rw [xx_c 15 15 (by omega), xx_c 14 14 (by omega), k1, k2]
      show xR post (N + (p + 3)) (i + (q + 1)) (xU g f_openCount f_typeCount a_nodeOp a_nodeA a_nodeB a_nodeParts a_nodeSize a_slotSize a_slotParams a_openLists a_typeParent x_z0 s (r.length + 1) (nI (m_fc r)) (x_ix (m_ch g r)) 6 cn ce re (x_tg tg) dt (fr (17 * r.length + 13)) (fr (17 * r.length + 16)) sv sh fr)
      refine x_go (by omega) (show ¬ (6 : Int32) = 7 by decide) ?_
      refine br_f (by decide) (br_t (by decide) ?_)
      refine br_f (xx_ne (a := r.length + 1) (b := 0) (by omega) (by omega) (by decide)) ?_
      refine x_top r.length ?_
      rw [nI_pred]
      refine br_f (x_tgr g1 hl) ⟨xx_i 2 (by omega), ?_⟩
      rw [xx_c 2 2 (by omega), c2]
      refine br_f (by decide) ?_
      refine x_pop (f := ((nd, ev, 3, []), (gt, x0, x1, x2), (la, 0, bx, ty), dt, sc, sr, tg, pl)) h1 h2 (Or.inl rfl) hl (fun sv' sh' hs' => ?_)
      refine H (p + 2) (q + 2) (by omega) _ ?_
      exact ⟨cn, ce, re, x_tg tg, dt, fr (17 * r.length + 13), fr (17 * r.length + 16), sv', sh', fr, hs', hL, fun z => (by cases z), fun z => (by cases z), fun _ => ⟨rfl, rfl, fun z => k3 z⟩, rfl⟩
    · repeat first | refine br_t (by decide) ?_ | refine br_f (by decide) ?_
      rw [hla (Or.inr (by decide)) rfl (by
        rcases f3 with h | h | h | h | h | h | h | h | h | h <;> omega)]
      exact FIN la H
    · repeat first | refine br_t (by decide) ?_ | refine br_f (by decide) ?_
      rw [hla (Or.inr (by decide)) rfl (by
        rcases f3 with h | h | h | h | h | h | h | h | h | h <;> omega)]
      exact FIN la H
    · repeat first | refine br_t (by decide) ?_ | refine br_f (by decide) ?_
      rw [hla (Or.inr (by decide)) rfl (by
        rcases f3 with h | h | h | h | h | h | h | h | h | h <;> omega)]
      exact FIN la H
theorem x_bind {f_openCount f_typeCount f_printedCount f_depthLimit f_fuelLimit f_lastStatus f_lastValue f_lastError f_lastDatum f_lastPlace f_beatsUsed f_frameCount f_mode f_currentNode f_currentEnv f_result f_calls f_inForce f_exitTarget f_exitValue f_exitType f_exitPlace : Int32} {a_nodeOp a_nodeA a_nodeB a_nodeParts a_nodeSize a_slotSize a_slotParams a_openLists a_typeParent a_elements a_locals a_specialValue a_specialHas a_printed a_frames : Nat → Int32} {P : SX → Prop} {v : Int32} (b a : Nat) (hb : b + 17 ≤ 11900) (h8 : 8 ≤ a) (h12 : a < 12) (hsh : a_specialHas (a - 8) = 0 ∨ a_specialHas (a - 8) = 1) (h : P (f_openCount, f_typeCount, f_printedCount, f_depthLimit, f_fuelLimit, f_lastStatus, f_lastValue, f_lastError, f_lastDatum, f_lastPlace, f_beatsUsed, f_frameCount, f_mode, f_currentNode, f_currentEnv, f_result, f_calls, f_inForce, f_exitTarget, f_exitValue, f_exitType, f_exitPlace, a_nodeOp, a_nodeA, a_nodeB, a_nodeParts, a_nodeSize, a_slotSize, a_slotParams, a_openLists, a_typeParent, a_elements, a_locals, upd a_specialValue (a - 8) v, upd a_specialHas (a - 8) 1, a_printed, upd (upd (upd a_frames (b + 10) (nI a)) (b + 11) (a_specialValue (a - 8))) (b + 12) (a_specialHas (a - 8)))) : wpX_bindSpecial P (f_openCount, f_typeCount, f_printedCount, f_depthLimit, f_fuelLimit, f_lastStatus, f_lastValue, f_lastError, f_lastDatum, f_lastPlace, f_beatsUsed, f_frameCount, f_mode, f_currentNode, f_currentEnv, f_result, f_calls, f_inForce, f_exitTarget, f_exitValue, f_exitType, f_exitPlace, a_nodeOp, a_nodeA, a_nodeB, a_nodeParts, a_nodeSize, a_slotSize, a_slotParams, a_openLists, a_typeParent, a_elements, a_locals, a_specialValue, a_specialHas, a_printed, a_frames) (nI b) (nI a) v := by
  have b1 : vp_nar .boolean 1 = 1 := by decide
  refine xx_w 10 (by omega) ?_
  rw [x_sub8 h8]
  refine ⟨vp_in_nI (by omega) (by decide), ?_⟩
  rw [nI_clamp (by omega)]
  refine xx_w 11 (by omega) ?_
  refine ⟨vp_in_nI (by omega) (by decide), ?_⟩
  have last : ∀ z : Int32, a_specialHas (a - 8) = z → wX_bindSpecial_53 P (nI a) v z (nI b + 12) f_openCount f_typeCount f_printedCount f_depthLimit f_fuelLimit f_lastStatus f_lastValue f_lastError f_lastDatum f_lastPlace f_beatsUsed f_frameCount f_mode f_currentNode f_currentEnv f_result f_calls f_inForce f_exitTarget f_exitValue f_exitType f_exitPlace a_nodeOp a_nodeA a_nodeB a_nodeParts a_nodeSize a_slotSize a_slotParams a_openLists a_typeParent a_elements a_locals a_specialValue a_specialHas a_printed (upd (upd a_frames (b + 10) (nI a)) (b + 11) (a_specialValue (a - 8))) := by
    intro z hz
    refine xx_w 12 (by omega) ?_
    rw [x_sub8 h8, nI_clamp (by omega), b1, ← hz]
    exact ⟨vp_in_nI (by omega) (by decide), nm_e ⟨vp_in_nI (by omega) (by decide), nm_e h⟩⟩
  rcases hsh with z | z
  · exact br_t z (last 0 z)
  · exact br_f (by rw [z]; decide) (last 1 z)
theorem x_sp01 {a b : Int32} {o : Option Int32} (h : x_sp a b o) : b = 0 ∨ b = 1 := by
  cases o with
  | none => exact Or.inl h
  | some x => exact Or.inr h.1
theorem xSp_b {gl : Nat → Option Int32} {f : Fr} {a : Nat} {v : Int32} (h8 : 8 ≤ a) (hb : fr_bv f = a) (hx : fr_bx f = v) (h : xSp sv sh gl r) : xSp (upd sv (a - 8) v) (upd sh (a - 8) 1) gl (f :: r) := by
  intro j hj
  by_cases e : j = a - 8
  · have ec : m_cur gl (8 + j) (f :: r) = some v := (if_pos (by rw [hb]; omega)).trans (by rw [hx])
    rw [ec, e, pk_us, pk_us]
    exact ⟨rfl, rfl⟩
  · have ec : m_cur gl (8 + j) (f :: r) = m_cur gl (8 + j) r := if_neg (by rw [hb]; omega)
    rw [ec, pk_un e, pk_un e]
    exact h j hj
end
