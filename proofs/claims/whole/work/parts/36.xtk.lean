/-! the class's side: the step of a delivered value -/
section
variable {g : mG} {V : Nat → Prop} {Z : Nat → Nat} {pa : Nat → Option Nat} {T : Nat} {f_openCount f_typeCount : Int32} {a_nodeOp a_nodeA a_nodeB a_nodeParts a_nodeSize a_slotSize a_slotParams a_openLists a_typeParent : Nat → Int32} {s : St} {n : Nat} {ca inf mo cn ce re et ex ey ep v : Int32} {sv sh fr : Nat → Int32} {l r : List Fr} {f : Fr} {P : SX → Prop} {post : Int32 → SX → Prop} {N i p q : Nat}
/-- the cells of a list whose part comes -/
def x_st (fr : Nat → Int32) (b gt : Nat) (v : Int32) : Nat → Int32 := if gt < 3 then upd fr (b + (5 + gt)) v else fr
theorem x_st_n {fr : Nat → Int32} {b gt c : Nat} {v : Int32} (hc : c < 5 ∨ 8 ≤ c) : x_st fr b gt v (b + c) = fr (b + c) := by
  unfold x_st
  split
  · exact up_n (by omega)
  · rfl
theorem x_st_v {fr : Nat → Int32} {b gt c : Nat} {v : Int32} (hc : c < 3) : x_st fr b gt v (b + (5 + c)) = if gt = c then v else fr (b + (5 + c)) := by
  unfold x_st
  by_cases e : gt = c
  · rw [if_pos (by omega), if_pos e, e]; exact up_s
  · rw [if_neg e]
    split
    · exact up_n (by omega)
    · rfl
theorem x_st_b {fr : Nat → Int32} {b gt j : Nat} {v : Int32} (hj : j < b) : x_st fr b gt v j = fr j := by
  unfold x_st
  split
  · exact pk_un (by omega)
  · rfl
theorem x_tk {f_openCount f_typeCount f_printedCount f_depthLimit f_fuelLimit f_lastStatus f_lastValue f_lastError f_lastDatum f_lastPlace f_beatsUsed f_frameCount f_mode f_currentNode f_currentEnv f_result f_calls f_inForce f_exitTarget f_exitValue f_exitType f_exitPlace : Int32} {a_nodeOp a_nodeA a_nodeB a_nodeParts a_nodeSize a_slotSize a_slotParams a_openLists a_typeParent a_elements a_locals a_specialValue a_specialHas a_printed a_frames : Nat → Int32} {P : SX → Prop} (b n k m gt : Nat) (hb : b + 17 ≤ 11900) (hn : n < 392) (h0 : a_frames (b + 0) = nI n) (h4 : a_frames (b + 4) = nI m) (hk : a_nodeParts n = nI k) (hg : gt + 1 + m = k) (hk2 : k < 1000) (h : wX_takePart_49 P (nI b) (nI n) f_openCount f_typeCount f_printedCount f_depthLimit f_fuelLimit f_lastStatus f_lastValue f_lastError f_lastDatum f_lastPlace f_beatsUsed f_frameCount f_mode f_currentNode f_currentEnv f_result f_calls f_inForce f_exitTarget f_exitValue f_exitType f_exitPlace a_nodeOp a_nodeA a_nodeB a_nodeParts a_nodeSize a_slotSize a_slotParams a_openLists a_typeParent a_elements a_locals a_specialValue a_specialHas a_printed (x_st a_frames b gt f_result)) : wpX_takePart P (f_openCount, f_typeCount, f_printedCount, f_depthLimit, f_fuelLimit, f_lastStatus, f_lastValue, f_lastError, f_lastDatum, f_lastPlace, f_beatsUsed, f_frameCount, f_mode, f_currentNode, f_currentEnv, f_result, f_calls, f_inForce, f_exitTarget, f_exitValue, f_exitType, f_exitPlace, a_nodeOp, a_nodeA, a_nodeB, a_nodeParts, a_nodeSize, a_slotSize, a_slotParams, a_openLists, a_typeParent, a_elements, a_locals, a_specialValue, a_specialHas, a_printed, a_frames) (nI b) := by
  refine xx_r 0 (by omega) ?_
  rw [h0]
  refine ⟨vp_in_nI hn (by decide), xx_i 4 (by omega), ?_⟩
  rw [xx_c 4 4 (by omega), nI_clamp (by omega), hk, h4, pk_sub (by omega), show k - m = gt + 1 from by omega, nI_pred]
  refine nm_e ?_
  refine br_f (nI_pos (by omega)) ?_
  by_cases e : gt < 3
  · refine br_f (nI_ge (b := 3) e (by decide)) (br_f (by decide) ?_)
    have eb : nI b + 5 + nI gt = nI (b + (5 + gt)) := by
      rw [show (5 : Int32) = nI 5 from rfl, nI_add, nI_add, Nat.add_assoc]
    rw [eb]
    refine ⟨vp_in_nI (by omega) (by decide), ?_⟩
    rw [nI_clamp (by omega)]
    unfold x_st at h
    rw [if_pos e] at h
    exact nm_e h
  · unfold x_st at h
    rw [if_neg e] at h
    exact br_t (nI_le (a := 3) (by omega) (by omega)) (br_t rfl h)
theorem fo_tks (o : Nat) (h : o ≤ 26) (h7 : o ≠ 7) (h11 : o ≠ 11) : o < 6 ∨ 15 < o ∨ o = 6 ∨ o = 8 ∨ o = 9 ∨ o = 10 ∨ o = 12 ∨ o = 13 ∨ o = 14 ∨ o = 15 := by omega
/-- a list in PARTS takes a value: v is not the 0 of a WHILE -/
theorem x_tkP (G : g_w g V Z pa T) (X : xG g V Z f_openCount f_typeCount a_nodeOp a_nodeA a_nodeB a_nodeParts a_nodeSize a_slotSize a_slotParams a_openLists a_typeParent) {nd ev gt bv ty sr : Nat} {rm : List Nat} {x0 x1 x2 la bx dt pl : Int32} {sc : List (Nat × Nat × Nat)} {tg : Option Nat} (F : w_f g V Z pa 1 ((nd, ev, 0, rm), (gt, x0, x1, x2), (la, bv, bx, ty), dt, sc, sr, tg, pl) r) (hl : r.length < 700) (h1 : xSp sv sh (sGl s) (((nd, ev, 0, rm), (gt, x0, x1, x2), (la, bv, bx, ty), dt, sc, sr, tg, pl) :: r)) (h2 : xL g fr (sGl s) (((nd, ev, 0, rm), (gt, x0, x1, x2), (la, bv, bx, ty), dt, sc, sr, tg, pl) :: r)) (hw : gO g nd = 10 → v = 0 → P (xU g f_openCount f_typeCount a_nodeOp a_nodeA a_nodeB a_nodeParts a_nodeSize a_slotSize a_slotParams a_openLists a_typeParent x_z0 s (r.length + 1) (nI (m_fc r)) (x_ix (m_ch g r)) 3 cn ce 0 et ex ey ep sv sh (x_st fr (17 * r.length) gt v))) (h : ¬ (gO g nd = 10 ∧ v = 0) → ∀ re' sv' sh' fr', xSp sv' sh' (sGl s) (m_take g ((nd, ev, 0, rm), (gt, x0, x1, x2), (la, bv, bx, ty), dt, sc, sr, tg, pl) v :: r) → xL g fr' (sGl s) (m_take g ((nd, ev, 0, rm), (gt, x0, x1, x2), (la, bv, bx, ty), dt, sc, sr, tg, pl) v :: r) → ((fr_ph (m_take g ((nd, ev, 0, rm), (gt, x0, x1, x2), (la, bv, bx, ty), dt, sc, sr, tg, pl) v) = 1 ∨ 5 ≤ fr_ph (m_take g ((nd, ev, 0, rm), (gt, x0, x1, x2), (la, bv, bx, ty), dt, sc, sr, tg, pl) v)) → fr_rm (m_take g ((nd, ev, 0, rm), (gt, x0, x1, x2), (la, bv, bx, ty), dt, sc, sr, tg, pl) v) = [] → gO g nd ≠ 10 → re' = fr_la (m_take g ((nd, ev, 0, rm), (gt, x0, x1, x2), (la, bv, bx, ty), dt, sc, sr, tg, pl) v)) → P (xU g f_openCount f_typeCount a_nodeOp a_nodeA a_nodeB a_nodeParts a_nodeSize a_slotSize a_slotParams a_openLists a_typeParent x_z0 s (r.length + 1) (nI (m_fc r)) (x_ix (m_ch g r)) 1 cn ce re' et ex ey ep sv' sh' fr')) : wpX_takePart P (xU g f_openCount f_typeCount a_nodeOp a_nodeA a_nodeB a_nodeParts a_nodeSize a_slotSize a_slotParams a_openLists a_typeParent x_z0 s (r.length + 1) (nI (m_fc r)) (x_ix (m_ch g r)) 1 cn ce v et ex ey ep sv sh fr) (nI (17 * r.length)) := by
  obtain ⟨f1, f2, f3, f4, f5, f6, f7, f8, f9, f10⟩ := F
  have f1 : V nd := f1
  have f2 : ev ≤ 5 := f2
  obtain ⟨n1, n2, n3, n4, n5, n6, n7, n8, n9, n10, n11⟩ := G.1 nd f1
  obtain ⟨y1, y2, y3, y4, y5, y6, y7, y8⟩ := X.1 nd f1
  have hK56 := (w_ks G (n := nd) f1).2.1
  have hnx := fun c cs (e : rm = c :: cs) => w_nxt G (nd := nd) (ev := ev) (ph := 0) (gt := gt) (bv := bv) (ty := ty) (sr := sr) (x0 := x0) (x1 := x1) (x2 := x2) (la := la) (bx := bx) (dt := dt) (pl := pl) (sc := sc) (tg := tg) (w := 1) (c := c) (cs := cs) f1 (by rw [← e]; exact f3)
  have f3 : (gO g nd ≤ 26 ∧ gO g nd ≠ 7 ∧ gO g nd ≠ 11 ∧ ¬ (16 ≤ gO g nd ∧ gO g nd ≤ 18) ∧ rm = (gK g nd).drop (gt + 1) ∧ gt + 1 ≤ (gK g nd).length ∧ (gO g nd = 6 ∨ gO g nd = 9 ∨ gO g nd = 10 ∨ gO g nd = 13 ∨ gO g nd = 15 → gt = 0)) := by
    rcases f3 with h | h | h | h | h | h | h | h | h | h
    · exact h.2
    all_goals omega
  obtain ⟨k1, k2, k3, k4, k5, k6, k7⟩ := f3
  have hb : bv = 0 := by
    rcases f4 with z | ⟨_, _, z⟩
    · exact z
    · rcases z with ⟨z, _⟩ | z | z <;> cases z
  subst hb
  have hrl : gt + 1 + rm.length = (gK g nd).length := by
    rw [k5, List.length_drop]; omega
  obtain ⟨⟨c0, c1, c2, c3, c4, c5, c6, c7, c8, c9, c10, c11, c12, c13⟩, hL⟩ := h2
  have hbb : 17 * r.length + 17 ≤ 11900 := by omega
  have e : m_take g ((nd, ev, 0, rm), (gt, x0, x1, x2), (la, 0, bx, ty), dt, sc, sr, tg, pl) v = (if gO g nd = 6 then ((nd, ev, 1, [(gK g nd).getD (if v = 0 then 2 else 1) 0]), (gt + 1, v, x1, x2), (0, 0, bx, ty), dt, sc, sr, tg, pl)
      else if gO g nd = 10 then ((nd, ev, 1, rm), (gt + 1, x0, x1, x2), (0, 0, bx, ty), dt, sc, sr, tg, pl)
      else if gO g nd = 9 then ((nd, ev, 1, rm), (gt + 1, v, x1, x2), (0, gA g nd, v, ty), dt, sc, sr, tg, pl)
      else if gO g nd = 13 then ((nd, ev, 1, rm), (gt + 1, v, x1, x2), (0, 0, bx, ty), dt, sc, sr, tg, pl)
      else if gO g nd = 15 then ((nd, ev, 2, rm), (gt + 1, v, x1, x2), (la, 0, bx, ty), dt, sc, sr, tg, pl)
      else ((nd, ev, 0, rm), (gt + 1, (if gt = 0 then v else x0), (if gt = 1 then v else x1), (if gt = 2 then v else x2)), (la, 0, bx, ty), dt, sc, sr, tg, pl)) := rfl
  rw [e] at h
  refine x_tk (17 * r.length) nd (gK g nd).length rm.length gt hbb n4 c0 c4 y2 hrl (by omega) ?_
  have q0 : x_st fr (17 * r.length) gt v (17 * r.length + 0) = nI nd := (x_st_n (by omega)).trans c0
  have q1 : x_st fr (17 * r.length) gt v (17 * r.length + 1) = nI ev := (x_st_n (by omega)).trans c1
  have q2 : x_st fr (17 * r.length) gt v (17 * r.length + 2) = nI 0 := (x_st_n (by omega)).trans c2
  have q3 : ∀ c cs, rm = c :: cs → x_st fr (17 * r.length) gt v (17 * r.length + 3) = nI c := fun c cs z => (x_st_n (by omega)).trans (c3 c cs z)
  have q4 : x_st fr (17 * r.length) gt v (17 * r.length + 4) = nI rm.length := (x_st_n (by omega)).trans c4
  have q5 : x_st fr (17 * r.length) gt v (17 * r.length + 5) = if gt = 0 then v else fr (17 * r.length + 5) := x_st_v (c := 0) (by decide)
  have q6 : x_st fr (17 * r.length) gt v (17 * r.length + 6) = if gt = 1 then v else fr (17 * r.length + 6) := x_st_v (c := 1) (by decide)
  have q7 : x_st fr (17 * r.length) gt v (17 * r.length + 7) = if gt = 2 then v else fr (17 * r.length + 7) := x_st_v (c := 2) (by decide)
  have q8 : x_st fr (17 * r.length) gt v (17 * r.length + 8) = x_ix (m_ch g r) := (x_st_n (by omega)).trans c8
  have q9 : x_st fr (17 * r.length) gt v (17 * r.length + 9) = nI (m_fc r) := (x_st_n (by omega)).trans c9
  have q10 : x_st fr (17 * r.length) gt v (17 * r.length + 10) = nI 0 := (x_st_n (by omega)).trans c10
  have qb : ∀ j, j < 17 * r.length → x_st fr (17 * r.length) gt v j = fr j := fun j hj => x_st_b hj
  have h1' := xSp_d rfl h1
  generalize x_st fr (17 * r.length) gt v = fn at q0 q1 q2 q3 q4 q5 q6 q7 q8 q9 q10 qb hw ⊢
  have plain : gO g nd ≠ 6 → gO g nd ≠ 10 → gO g nd ≠ 9 → gO g nd ≠ 13 → gO g nd ≠ 15 → P (xU g f_openCount f_typeCount a_nodeOp a_nodeA a_nodeB a_nodeParts a_nodeSize a_slotSize a_slotParams a_openLists a_typeParent x_z0 s (r.length + 1) (nI (m_fc r)) (x_ix (m_ch g r)) 1 cn ce v et ex ey ep sv sh fn) := by
    intro o6 o10 o9 o13 o15
    rw [if_neg o6, if_neg o10, if_neg o9, if_neg o13, if_neg o15] at h
    refine h (fun z => o10 z.1) v sv sh fn (xSp_c rfl h1') ⟨⟨q0, q1, q2, q3, q4, fun _ _ => ?_, fun _ z => ?_, fun _ z => ?_, q8, q9, q10, fun z => absurd rfl z, fun z => ?_, fun z => ?_⟩, xL_keep hL qb⟩ (fun z => ?_)
    · rw [q5]
      by_cases z : gt = 0
      · rw [if_pos z, if_pos z]
      · rw [if_neg z, if_neg z]; exact c5 (Or.inl rfl) (by omega)
    · rw [q6]
      by_cases z : gt = 1
      · rw [if_pos z, if_pos z]
      · rw [if_neg z, if_neg z]; exact c6 rfl (by omega)
    · rw [q7]
      by_cases z : gt = 2
      · rw [if_pos z, if_pos z]
      · rw [if_neg z, if_neg z]; exact c7 rfl (by omega)
    · rcases z with z | z <;> cases z
    · cases z
    · rcases z with z | z
      · cases z
      · exact absurd z (by show ¬ 5 ≤ 0; decide)
  have enter : ∀ {x0' : Int32}, (gO g nd = 10 ∨ gO g nd = 13) → (gO g nd = 13 → gt = 0 ∧ x0' = v) → xL g (upd fn (17 * r.length + 2) 1) (sGl s) (((nd, ev, 1, rm), (gt + 1, x0', x1, x2), (0, 0, bx, ty), dt, sc, sr, tg, pl) :: r) := by
    intro x0' o o13
    refine ⟨⟨?_, ?_, ?_, ?_, ?_, ?_, ?_, ?_, ?_, ?_, ?_, ?_, ?_, ?_⟩, xL_keep hL ?_⟩
    · simp (disch := decide) only [up_n, up_s]; exact q0
    · simp (disch := decide) only [up_n, up_s]; exact q1
    · simp (disch := decide) only [up_n, up_s]; rfl
    · simp (disch := decide) only [up_n, up_s]; exact q3
    · simp (disch := decide) only [up_n, up_s]; exact q4
    · simp (disch := decide) only [up_n, up_s]
      intro z _
      rcases z with z | z | ⟨_, z⟩
      · cases z
      · cases z
      · obtain ⟨z1, z2⟩ := o13 z
        rw [q5, if_pos z1, z2]
    · intro z; cases z
    · intro z; cases z
    · simp (disch := decide) only [up_n, up_s]; exact q8
    · simp (disch := decide) only [up_n, up_s]; exact q9
    · simp (disch := decide) only [up_n, up_s]; exact q10
    · intro z; exact absurd rfl z
    · intro z; rcases z with z | z <;> cases z
    · intro z; cases z
    · intro j hj
      rw [pk_un (by omega)]; exact qb j hj
  refine xx_n n4 ?_
  rw [y1]
  rcases fo_tks (gO g nd) k1 k2 k3 with o | o | o | o | o | o | o | o | o | o
  · exact br_t (nI_lt (b := 6) o (by decide)) (plain (by omega) (by omega) (by omega) (by omega) (by omega))
  · exact br_f (nI_nlt (b := 6) (by omega) (by omega)) (br_t (nI_lt (a := 15) o (by omega)) (plain (by omega) (by omega) (by omega) (by omega) (by omega)))
  · rw [o]
    repeat first | refine br_t (by decide) ?_ | refine br_f (by decide) ?_
    rw [if_pos o] at h
    have hg0 := k7 (Or.inl o)
    subst hg0
    have hl3 := fo_lst (k := 3) (G.1 nd f1) (by omega) (by rw [o]; rfl)
    obtain ⟨k0, b, c, rest, hK⟩ : ∃ a b c t, gK g nd = a :: b :: c :: t := by
      match hK : gK g nd with
      | [] => rw [hK] at hl3; exact absurd hl3 (by decide)
      | [_] => rw [hK] at hl3; exact absurd hl3 (by simp)
      | [_, _] => rw [hK] at hl3; exact absurd hl3 (by simp)
      | a :: b :: c :: t => exact ⟨a, b, c, t, rfl⟩
    have hrm : rm = b :: c :: rest := by rw [k5, hK]; rfl
    have hVb : V b := (n5 b (by rw [hK]; simp)).1
    have hc : c = b + Z b := hnx b (c :: rest) hrm c rest rfl
    have last : ∀ d j fm, (if v = 0 then 2 else 1) = j → (gK g nd).getD j 0 = d → fm (17 * r.length + 3) = nI d → (∀ k, k ≠ 3 → k ≠ 4 → fm (17 * r.length + k) = fn (17 * r.length + k)) → (∀ j, j < 17 * r.length → fm j = fn j) → wX_chooseBranch_12 P (nI (17 * r.length)) f_openCount f_typeCount (nI (sPr s)) (nI (gD g)) (nI (gF g)) (x_z0.1) (x_z0.2.1) (x_z0.2.2.1) (x_z0.2.2.2.1) (x_z0.2.2.2.2) (nI (sBe s)) (nI (r.length + 1)) 1 cn ce v (nI (m_fc r)) (x_ix (m_ch g r)) et ex ey ep a_nodeOp a_nodeA a_nodeB a_nodeParts a_nodeSize a_slotSize a_slotParams a_openLists a_typeParent (sCe s) (sLo s) sv sh (sOu s) fm := by
      intro d j fm hj hd m3 mk mb
      rw [hj, hd] at h
      refine xx_w 4 (by omega) ?_
      refine xx_w 2 (by omega) ?_
      refine h (fun z => by omega) v sv sh (upd (upd fm (17 * r.length + 4) 1) (17 * r.length + 2) 1) (xSp_c rfl h1') ⟨⟨?_, ?_, ?_, ?_, ?_, ?_, ?_, ?_, ?_, ?_, ?_, ?_, ?_, ?_⟩, xL_keep hL ?_⟩ (fun _ z => (by cases z))
      · simp (disch := decide) only [up_n, up_s]; rw [mk 0 (by decide) (by decide)]; exact q0
      · simp (disch := decide) only [up_n, up_s]; rw [mk 1 (by decide) (by decide)]; exact q1
      · simp (disch := decide) only [up_n, up_s]; rfl
      · intro c' cs' z
        injection z with z1 z2
        simp (disch := decide) only [up_n, up_s]
        rw [m3, z1]
      · simp (disch := decide) only [up_n, up_s]; rfl
      · intro z
        rcases z with z | z | ⟨_, z⟩
        · cases z
        · cases z
        · have z : gO g nd = 13 := z
          omega
      · intro z; cases z
      · intro z; cases z
      · simp (disch := decide) only [up_n, up_s]; rw [mk 8 (by decide) (by decide)]; exact q8
      · simp (disch := decide) only [up_n, up_s]; rw [mk 9 (by decide) (by decide)]; exact q9
      · simp (disch := decide) only [up_n, up_s]; rw [mk 10 (by decide) (by decide)]; exact q10
      · intro z; exact absurd rfl z
      · intro z; rcases z with z | z <;> cases z
      · intro z; cases z
      · intro j hj
        rw [pk_un (by omega), pk_un (by omega), mb j hj]; exact qb j hj
    refine fb_if Iff.rfl (fun z => ?_) (fun z => ?_)
    · refine x_skip (17 * r.length) b (rest.length + 1) (Z b) hbb (G.1 b hVb).2.2.2.1 (q3 b _ hrm) (X.1 b hVb).2.2.1 (by rw [q4, hrm]; rfl) ?_
      refine last c 2 _ (if_pos z) (by rw [hK]; rfl) ?_ ?_ ?_
      · simp (disch := decide) only [up_n, up_s]; rw [hc]
      · intro k z3 z4
        rw [up_n z4, up_n z3]
      · intro j hj
        rw [pk_un (by omega), pk_un (by omega)]
    · exact last b 1 fn (if_neg z) (by rw [hK]; rfl) (q3 b _ hrm) (fun _ _ _ => rfl) (fun _ _ => rfl)
  · rw [o]
    repeat first | refine br_t (by decide) ?_ | refine br_f (by decide) ?_
    exact plain (by omega) (by omega) (by omega) (by omega) (by omega)
  · rw [o]
    repeat first | refine br_t (by decide) ?_ | refine br_f (by decide) ?_
    rw [if_neg (by omega), if_neg (by omega), if_pos o] at h
    have ha := (n9 (by omega)).2.1 (Or.inl o)
    refine ⟨vp_in_nI n4 (by decide), ?_⟩
    rw [nI_clamp (by omega), y5 (Or.inr (by unfold fo_ma; omega))]
    have hsp := h1' (gA g nd - 8) (by omega)
    rw [show 8 + (gA g nd - 8) = gA g nd from by omega] at hsp
    refine x_bind (17 * r.length) (gA g nd) hbb ha.1 ha.2 (x_sp01 hsp) ?_
    refine x_body _ hbb ?_
    refine h (fun z => by omega) 0 _ _ (upd (upd (upd (upd fn (17 * r.length + 10) (nI (gA g nd))) (17 * r.length + 11) (sv (gA g nd - 8))) (17 * r.length + 12) (sh (gA g nd - 8))) (17 * r.length + 2) 1) (xSp_b ha.1 rfl rfl h1') ⟨⟨?_, ?_, ?_, ?_, ?_, ?_, ?_, ?_, ?_, ?_, ?_, ?_, ?_, ?_⟩, xL_keep hL ?_⟩ (fun _ _ _ => rfl)
    · simp (disch := decide) only [up_n, up_s]; exact q0
    · simp (disch := decide) only [up_n, up_s]; exact q1
    · simp (disch := decide) only [up_n, up_s]; rfl
    · simp (disch := decide) only [up_n, up_s]; exact q3
    · simp (disch := decide) only [up_n, up_s]; exact q4
    · intro z
      rcases z with z | z | ⟨_, z⟩
      · cases z
      · cases z
      · have z : gO g nd = 13 := z
        omega
    · intro z; cases z
    · intro z; cases z
    · simp (disch := decide) only [up_n, up_s]; exact q8
    · simp (disch := decide) only [up_n, up_s]; exact q9
    · simp (disch := decide) only [up_n, up_s]
    · simp (disch := decide) only [up_n, up_s]; intro _; exact hsp
    · intro z; rcases z with z | z <;> cases z
    · intro z; cases z
    · intro j hj
      rw [pk_un (by omega), pk_un (by omega), pk_un (by omega), pk_un (by omega)]; exact qb j hj
  · rw [o]
    repeat first | refine br_t (by decide) ?_ | refine br_f (by decide) ?_
    rw [if_neg (by omega), if_pos o] at h
    refine fb_if Iff.rfl (fun z => ?_) (fun z => ?_)
    · exact hw o z
    · refine x_body _ hbb ?_
      exact h (fun y => z y.2) 0 sv sh (upd fn (17 * r.length + 2) 1) (xSp_c rfl h1') (enter (Or.inl o) (fun z => by omega)) (fun _ _ _ => rfl)
  · rw [o]
    repeat first | refine br_t (by decide) ?_ | refine br_f (by decide) ?_
    exact plain (by omega) (by omega) (by omega) (by omega) (by omega)
  · rw [o]
    repeat first | refine br_t (by decide) ?_ | refine br_f (by decide) ?_
    rw [if_neg (by omega), if_neg (by omega), if_neg (by omega), if_pos o] at h
    refine x_body _ hbb ?_
    exact h (fun y => by omega) 0 sv sh (upd fn (17 * r.length + 2) 1) (xSp_c rfl h1') (enter (Or.inr o) (fun _ => ⟨k7 (by omega), rfl⟩)) (fun _ _ _ => rfl)
  · rw [o]
    repeat first | refine br_t (by decide) ?_ | refine br_f (by decide) ?_
    exact plain (by omega) (by omega) (by omega) (by omega) (by omega)
  · rw [o]
    repeat first | refine br_t (by decide) ?_ | refine br_f (by decide) ?_
    rw [if_neg (by omega), if_neg (by omega), if_neg (by omega), if_neg (by omega), if_pos o] at h
    have hg0 := k7 (by omega)
    refine xx_w 2 (by omega) ?_
    refine h (fun y => by omega) v sv sh (upd fn (17 * r.length + 2) 2) (xSp_c rfl h1') ⟨⟨?_, ?_, ?_, ?_, ?_, ?_, ?_, ?_, ?_, ?_, ?_, ?_, ?_, ?_⟩, xL_keep hL ?_⟩ (fun z => ?_)
    · simp (disch := decide) only [up_n, up_s]; exact q0
    · simp (disch := decide) only [up_n, up_s]; exact q1
    · simp (disch := decide) only [up_n, up_s]; rfl
    · simp (disch := decide) only [up_n, up_s]; exact q3
    · simp (disch := decide) only [up_n, up_s]; exact q4
    · simp (disch := decide) only [up_n, up_s]
      intro _ _
      rw [q5, if_pos hg0]
    · intro z; cases z
    · intro z; cases z
    · simp (disch := decide) only [up_n, up_s]; exact q8
    · simp (disch := decide) only [up_n, up_s]; exact q9
    · simp (disch := decide) only [up_n, up_s]; exact q10
    · intro z; exact absurd rfl z
    · intro z; rcases z with z | z <;> cases z
    · intro z; cases z
    · intro j hj
      rw [pk_un (by omega)]; exact qb j hj
    · rcases z with z | z
      · cases z
      · exact absurd z (by show ¬ 5 ≤ 2; decide)
end
