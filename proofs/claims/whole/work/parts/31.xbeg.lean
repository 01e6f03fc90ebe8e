/-! the class's side: beginning a node -/
theorem x_finish {f_openCount f_typeCount f_printedCount f_depthLimit f_fuelLimit f_lastStatus f_lastValue f_lastError f_lastDatum f_lastPlace f_beatsUsed f_frameCount f_mode f_currentNode f_currentEnv f_result f_calls f_inForce f_exitTarget f_exitValue f_exitType f_exitPlace : Int32} {a_nodeOp a_nodeA a_nodeB a_nodeParts a_nodeSize a_slotSize a_slotParams a_openLists a_typeParent a_elements a_locals a_specialValue a_specialHas a_printed a_frames : Nat → Int32} {P : SX → Prop} {v : Int32} (h : P (f_openCount, f_typeCount, f_printedCount, f_depthLimit, f_fuelLimit, f_lastStatus, f_lastValue, f_lastError, f_lastDatum, f_lastPlace, f_beatsUsed, f_frameCount, 3, f_currentNode, f_currentEnv, v, f_calls, f_inForce, f_exitTarget, f_exitValue, f_exitType, f_exitPlace, a_nodeOp, a_nodeA, a_nodeB, a_nodeParts, a_nodeSize, a_slotSize, a_slotParams, a_openLists, a_typeParent, a_elements, a_locals, a_specialValue, a_specialHas, a_printed, a_frames)) : wpX_finish P (f_openCount, f_typeCount, f_printedCount, f_depthLimit, f_fuelLimit, f_lastStatus, f_lastValue, f_lastError, f_lastDatum, f_lastPlace, f_beatsUsed, f_frameCount, f_mode, f_currentNode, f_currentEnv, f_result, f_calls, f_inForce, f_exitTarget, f_exitValue, f_exitType, f_exitPlace, a_nodeOp, a_nodeA, a_nodeB, a_nodeParts, a_nodeSize, a_slotSize, a_slotParams, a_openLists, a_typeParent, a_elements, a_locals, a_specialValue, a_specialHas, a_printed, a_frames) v := h
theorem x_skip {f_openCount f_typeCount f_printedCount f_depthLimit f_fuelLimit f_lastStatus f_lastValue f_lastError f_lastDatum f_lastPlace f_beatsUsed f_frameCount f_mode f_currentNode f_currentEnv f_result f_calls f_inForce f_exitTarget f_exitValue f_exitType f_exitPlace : Int32} {a_nodeOp a_nodeA a_nodeB a_nodeParts a_nodeSize a_slotSize a_slotParams a_openLists a_typeParent a_elements a_locals a_specialValue a_specialHas a_printed a_frames : Nat → Int32} {P : SX → Prop} (b c m z : Nat) (hb : b + 17 ≤ 11900) (hc : c < 392) (h3 : a_frames (b + 3) = nI c) (hz : a_nodeSize c = nI z) (h4 : a_frames (b + 4) = nI (m + 1)) (h : P (f_openCount, f_typeCount, f_printedCount, f_depthLimit, f_fuelLimit, f_lastStatus, f_lastValue, f_lastError, f_lastDatum, f_lastPlace, f_beatsUsed, f_frameCount, f_mode, f_currentNode, f_currentEnv, f_result, f_calls, f_inForce, f_exitTarget, f_exitValue, f_exitType, f_exitPlace, a_nodeOp, a_nodeA, a_nodeB, a_nodeParts, a_nodeSize, a_slotSize, a_slotParams, a_openLists, a_typeParent, a_elements, a_locals, a_specialValue, a_specialHas, a_printed, upd (upd a_frames (b + 3) (nI (c + z))) (b + 4) (nI m))) : wpX_skipPart P (f_openCount, f_typeCount, f_printedCount, f_depthLimit, f_fuelLimit, f_lastStatus, f_lastValue, f_lastError, f_lastDatum, f_lastPlace, f_beatsUsed, f_frameCount, f_mode, f_currentNode, f_currentEnv, f_result, f_calls, f_inForce, f_exitTarget, f_exitValue, f_exitType, f_exitPlace, a_nodeOp, a_nodeA, a_nodeB, a_nodeParts, a_nodeSize, a_slotSize, a_slotParams, a_openLists, a_typeParent, a_elements, a_locals, a_specialValue, a_specialHas, a_printed, a_frames) (nI b) := by
  refine xx_r 3 (by omega) ?_
  rw [h3]
  refine ⟨vp_in_nI hc (by decide), ?_⟩
  rw [nI_clamp (by omega), hz, nI_add]
  refine xx_w 3 (by omega) ⟨xx_i 4 (by omega), ?_⟩
  rw [xx_c 4 4 (by omega), up_n (by decide), h4, nI_pred]
  exact ⟨xx_i 4 (by omega), nm_e h⟩
theorem x_raise {f_openCount f_typeCount f_printedCount f_depthLimit f_fuelLimit f_lastStatus f_lastValue f_lastError f_lastDatum f_lastPlace f_beatsUsed f_frameCount f_mode f_currentNode f_currentEnv f_result f_calls f_inForce f_exitTarget f_exitValue f_exitType f_exitPlace : Int32} {a_nodeOp a_nodeA a_nodeB a_nodeParts a_nodeSize a_slotSize a_slotParams a_openLists a_typeParent a_elements a_locals a_specialValue a_specialHas a_printed a_frames : Nat → Int32} {P : SX → Prop} {t d : Int32} (b : Nat) (hb : b + 17 ≤ 11900) (h : P (f_openCount, f_typeCount, f_printedCount, f_depthLimit, f_fuelLimit, f_lastStatus, f_lastValue, f_lastError, f_lastDatum, f_lastPlace, f_beatsUsed, f_frameCount, 5, f_currentNode, f_currentEnv, f_result, f_calls, f_inForce, f_exitTarget, f_exitValue, f_exitType, f_exitPlace, a_nodeOp, a_nodeA, a_nodeB, a_nodeParts, a_nodeSize, a_slotSize, a_slotParams, a_openLists, a_typeParent, a_elements, a_locals, a_specialValue, a_specialHas, a_printed, upd (upd (upd (upd a_frames (b + 2) 4) (b + 13) t) (b + 14) d) (b + 15) f_inForce)) : wpX_raise P (f_openCount, f_typeCount, f_printedCount, f_depthLimit, f_fuelLimit, f_lastStatus, f_lastValue, f_lastError, f_lastDatum, f_lastPlace, f_beatsUsed, f_frameCount, f_mode, f_currentNode, f_currentEnv, f_result, f_calls, f_inForce, f_exitTarget, f_exitValue, f_exitType, f_exitPlace, a_nodeOp, a_nodeA, a_nodeB, a_nodeParts, a_nodeSize, a_slotSize, a_slotParams, a_openLists, a_typeParent, a_elements, a_locals, a_specialValue, a_specialHas, a_printed, a_frames) (nI b) t d :=
  xx_w 2 (by omega) (xx_w 13 (by omega) (xx_w 14 (by omega) (xx_w 15 (by omega) h)))
theorem x_body {f_openCount f_typeCount f_printedCount f_depthLimit f_fuelLimit f_lastStatus f_lastValue f_lastError f_lastDatum f_lastPlace f_beatsUsed f_frameCount f_mode f_currentNode f_currentEnv f_result f_calls f_inForce f_exitTarget f_exitValue f_exitType f_exitPlace : Int32} {a_nodeOp a_nodeA a_nodeB a_nodeParts a_nodeSize a_slotSize a_slotParams a_openLists a_typeParent a_elements a_locals a_specialValue a_specialHas a_printed a_frames : Nat → Int32} {P : SX → Prop} (b : Nat) (hb : b + 17 ≤ 11900) (h : P (f_openCount, f_typeCount, f_printedCount, f_depthLimit, f_fuelLimit, f_lastStatus, f_lastValue, f_lastError, f_lastDatum, f_lastPlace, f_beatsUsed, f_frameCount, f_mode, f_currentNode, f_currentEnv, 0, f_calls, f_inForce, f_exitTarget, f_exitValue, f_exitType, f_exitPlace, a_nodeOp, a_nodeA, a_nodeB, a_nodeParts, a_nodeSize, a_slotSize, a_slotParams, a_openLists, a_typeParent, a_elements, a_locals, a_specialValue, a_specialHas, a_printed, upd a_frames (b + 2) 1)) : wpX_enterBody P (f_openCount, f_typeCount, f_printedCount, f_depthLimit, f_fuelLimit, f_lastStatus, f_lastValue, f_lastError, f_lastDatum, f_lastPlace, f_beatsUsed, f_frameCount, f_mode, f_currentNode, f_currentEnv, f_result, f_calls, f_inForce, f_exitTarget, f_exitValue, f_exitType, f_exitPlace, a_nodeOp, a_nodeA, a_nodeB, a_nodeParts, a_nodeSize, a_slotSize, a_slotParams, a_openLists, a_typeParent, a_elements, a_locals, a_specialValue, a_specialHas, a_printed, a_frames) (nI b) := xx_w 2 (by omega) h
theorem x_beat {f_openCount f_typeCount f_printedCount f_depthLimit f_lastStatus f_lastValue f_lastError f_lastDatum f_lastPlace f_frameCount f_mode f_currentNode f_currentEnv f_result f_calls f_inForce f_exitTarget f_exitValue f_exitType f_exitPlace : Int32} {a_nodeOp a_nodeA a_nodeB a_nodeParts a_nodeSize a_slotSize a_slotParams a_openLists a_typeParent a_elements a_locals a_specialValue a_specialHas a_printed a_frames : Nat → Int32} {P : Int32 → SX → Prop} {be F : Nat} (hbe : be ≤ F) (hF : F ≤ 200) (h1 : be < F → P 1 (f_openCount, f_typeCount, f_printedCount, f_depthLimit, nI F, f_lastStatus, f_lastValue, f_lastError, f_lastDatum, f_lastPlace, nI (be + 1), f_frameCount, f_mode, f_currentNode, f_currentEnv, f_result, f_calls, f_inForce, f_exitTarget, f_exitValue, f_exitType, f_exitPlace, a_nodeOp, a_nodeA, a_nodeB, a_nodeParts, a_nodeSize, a_slotSize, a_slotParams, a_openLists, a_typeParent, a_elements, a_locals, a_specialValue, a_specialHas, a_printed, a_frames)) (h2 : F ≤ be → P 0 (f_openCount, f_typeCount, f_printedCount, f_depthLimit, nI F, f_lastStatus, f_lastValue, f_lastError, f_lastDatum, f_lastPlace, nI be, f_frameCount, 7, f_currentNode, f_currentEnv, f_result, f_calls, f_inForce, f_exitTarget, f_exitValue, f_exitType, f_exitPlace, a_nodeOp, a_nodeA, a_nodeB, a_nodeParts, a_nodeSize, a_slotSize, a_slotParams, a_openLists, a_typeParent, a_elements, a_locals, a_specialValue, a_specialHas, a_printed, a_frames)) : wpX_spendBeat P (f_openCount, f_typeCount, f_printedCount, f_depthLimit, nI F, f_lastStatus, f_lastValue, f_lastError, f_lastDatum, f_lastPlace, nI be, f_frameCount, f_mode, f_currentNode, f_currentEnv, f_result, f_calls, f_inForce, f_exitTarget, f_exitValue, f_exitType, f_exitPlace, a_nodeOp, a_nodeA, a_nodeB, a_nodeParts, a_nodeSize, a_slotSize, a_slotParams, a_openLists, a_typeParent, a_elements, a_locals, a_specialValue, a_specialHas, a_printed, a_frames) := by
  refine fb_if (nI_ltI (by omega) (by omega)) (fun e => nm_r (nI_1 be) (h1 e)) (fun e => h2 (by omega))
theorem x_round {f_openCount f_typeCount f_printedCount f_depthLimit f_lastStatus f_lastValue f_lastError f_lastDatum f_lastPlace f_frameCount f_mode f_currentNode f_currentEnv f_result f_calls f_inForce f_exitTarget f_exitValue f_exitType f_exitPlace : Int32} {a_nodeOp a_nodeA a_nodeB a_nodeParts a_nodeSize a_slotSize a_slotParams a_openLists a_typeParent a_elements a_locals a_specialValue a_specialHas a_printed a_frames : Nat → Int32} {P : SX → Prop} {be F : Nat} (b n m : Nat) (hb : b + 17 ≤ 11900) (hn : n < 392) (hbe : be ≤ F) (hF : F ≤ 200) (h0 : a_frames (b + 0) = nI n) (hm : a_nodeParts n = nI m) (h1 : be < F → P (f_openCount, f_typeCount, f_printedCount, f_depthLimit, nI F, f_lastStatus, f_lastValue, f_lastError, f_lastDatum, f_lastPlace, nI (be + 1), f_frameCount, 1, f_currentNode, f_currentEnv, f_result, f_calls, f_inForce, f_exitTarget, f_exitValue, f_exitType, f_exitPlace, a_nodeOp, a_nodeA, a_nodeB, a_nodeParts, a_nodeSize, a_slotSize, a_slotParams, a_openLists, a_typeParent, a_elements, a_locals, a_specialValue, a_specialHas, a_printed, upd (upd (upd a_frames (b + 2) 0) (b + 3) (nI (n + 1))) (b + 4) (nI m))) (h2 : F ≤ be → P (f_openCount, f_typeCount, f_printedCount, f_depthLimit, nI F, f_lastStatus, f_lastValue, f_lastError, f_lastDatum, f_lastPlace, nI be, f_frameCount, 7, f_currentNode, f_currentEnv, f_result, f_calls, f_inForce, f_exitTarget, f_exitValue, f_exitType, f_exitPlace, a_nodeOp, a_nodeA, a_nodeB, a_nodeParts, a_nodeSize, a_slotSize, a_slotParams, a_openLists, a_typeParent, a_elements, a_locals, a_specialValue, a_specialHas, a_printed, a_frames)) : wpX_beginRound P (f_openCount, f_typeCount, f_printedCount, f_depthLimit, nI F, f_lastStatus, f_lastValue, f_lastError, f_lastDatum, f_lastPlace, nI be, f_frameCount, f_mode, f_currentNode, f_currentEnv, f_result, f_calls, f_inForce, f_exitTarget, f_exitValue, f_exitType, f_exitPlace, a_nodeOp, a_nodeA, a_nodeB, a_nodeParts, a_nodeSize, a_slotSize, a_slotParams, a_openLists, a_typeParent, a_elements, a_locals, a_specialValue, a_specialHas, a_printed, a_frames) (nI b) := by
  unfold wpX_beginRound
  refine x_beat hbe hF (fun e => ?_) (fun e => br_t rfl (h2 e))
  refine br_f (by decide) ?_
  refine xx_r 0 (by omega) ?_
  rw [h0]
  refine xx_w 2 (by omega) ?_
  rw [nI_1]
  refine xx_w 3 (by omega) ⟨vp_in_nI hn (by decide), ?_⟩
  rw [nI_clamp (by omega), hm]
  exact xx_w 4 (by omega) (h1 e)
theorem xF_new {g : mG} {fr : Nat → Int32} {gl : Nat → Option Int32} {b n e ph : Nat} {rm : List Nat} {l : List Fr} (hp : ph < 3) (e0 : fr (b + 0) = nI n) (e1 : fr (b + 1) = nI e) (e2 : fr (b + 2) = nI ph) (e3 : ∀ c cs, rm = c :: cs → fr (b + 3) = nI c) (e4 : fr (b + 4) = nI rm.length) (e8 : fr (b + 8) = x_ix (m_ch g l)) (e9 : fr (b + 9) = nI (m_fc l)) (e10 : fr (b + 10) = 0) : xF g fr gl b ((n, e, ph, rm), (0, 0, 0, 0), (0, 0, 0, 0), 0, [], 0, none, 0) l := by
  refine ⟨e0, e1, ?_, e3, e4, fun _ z => absurd z (by decide), fun _ z => absurd z (by decide), fun _ z => absurd z (by decide), e8, e9, e10, fun z => absurd rfl z, fun z => ?_, fun z => ?_⟩
  · rw [if_neg (by omega)]; exact e2
  · omega
  · omega
theorem fo_con_2 {Z : Nat → Nat} {e p c c' : Nat} {cs : List Nat} (h : fo_con Z e p (c :: c' :: cs)) : c = p ∧ c' = c + Z c := by
  obtain ⟨h1, _, h2, _⟩ := h
  exact ⟨h1, by rw [h2, h1]⟩
section
variable {g : mG} {V : Nat → Prop} {Z : Nat → Nat} {pa : Nat → Option Nat} {T : Nat} {f_openCount f_typeCount : Int32} {a_nodeOp a_nodeA a_nodeB a_nodeParts a_nodeSize a_slotSize a_slotParams a_openLists a_typeParent : Nat → Int32} {s : St} {n : Nat} {ca inf mo cn ce re et ex ey ep : Int32} {sv sh fr : Nat → Int32} {l r : List Fr} {f : Fr} {P : SX → Prop}
def x_pf (fr : Nat → Int32) (b : Nat) (n e m : Nat) (inf : Int32) (c : Nat) : Nat → Int32 := upd (upd (upd (upd (upd (upd (upd (upd fr (b + 0) (nI n)) (b + 1) (nI e)) (b + 2) 0) (b + 3) (nI (n + 1))) (b + 4) (nI m)) (b + 8) inf) (b + 9) (nI c)) (b + 10) 0
theorem x_push {f_openCount f_typeCount f_printedCount f_depthLimit f_fuelLimit f_lastStatus f_lastValue f_lastError f_lastDatum f_lastPlace f_beatsUsed f_mode f_currentNode f_currentEnv f_result f_inForce f_exitTarget f_exitValue f_exitType f_exitPlace : Int32} {a_nodeOp a_nodeA a_nodeB a_nodeParts a_nodeSize a_slotSize a_slotParams a_openLists a_typeParent a_elements a_locals a_specialValue a_specialHas a_printed a_frames : Nat → Int32} {P : Int32 → SX → Prop} (L n e m c : Nat) (hn : n < 392) (hL : L < 700) (hm : a_nodeParts n = nI m) (h : P 1 (f_openCount, f_typeCount, f_printedCount, f_depthLimit, f_fuelLimit, f_lastStatus, f_lastValue, f_lastError, f_lastDatum, f_lastPlace, f_beatsUsed, nI (L + 1), f_mode, f_currentNode, f_currentEnv, f_result, nI c, f_inForce, f_exitTarget, f_exitValue, f_exitType, f_exitPlace, a_nodeOp, a_nodeA, a_nodeB, a_nodeParts, a_nodeSize, a_slotSize, a_slotParams, a_openLists, a_typeParent, a_elements, a_locals, a_specialValue, a_specialHas, a_printed, x_pf a_frames (17 * L) n e m f_inForce c)) : wpX_pushFrame P (f_openCount, f_typeCount, f_printedCount, f_depthLimit, f_fuelLimit, f_lastStatus, f_lastValue, f_lastError, f_lastDatum, f_lastPlace, f_beatsUsed, nI L, f_mode, f_currentNode, f_currentEnv, f_result, nI c, f_inForce, f_exitTarget, f_exitValue, f_exitType, f_exitPlace, a_nodeOp, a_nodeA, a_nodeB, a_nodeParts, a_nodeSize, a_slotSize, a_slotParams, a_openLists, a_typeParent, a_elements, a_locals, a_specialValue, a_specialHas, a_printed, a_frames) (nI n) (nI e) := by
  refine br_t (nI_lt (b := 700) hL (by decide)) ?_
  refine nm_r (nI_1 L) ?_
  refine x_top L ?_
  refine xx_w 0 (by omega) ?_
  refine xx_w 1 (by omega) ?_
  refine xx_w 2 (by omega) ?_
  rw [nI_1]
  refine xx_w 3 (by omega) ⟨vp_in_nI hn (by decide), ?_⟩
  rw [nI_clamp (by omega), hm]
  exact xx_w 4 (by omega) (xx_w 8 (by omega) (xx_w 9 (by omega) (xx_w 10 (by omega) h)))
theorem x_pf_c {fr : Nat → Int32} {b n e m c : Nat} {inf : Int32} : x_pf fr b n e m inf c (b + 0) = nI n ∧ x_pf fr b n e m inf c (b + 1) = nI e ∧ x_pf fr b n e m inf c (b + 2) = 0 ∧ x_pf fr b n e m inf c (b + 3) = nI (n + 1) ∧ x_pf fr b n e m inf c (b + 4) = nI m ∧ x_pf fr b n e m inf c (b + 8) = inf ∧ x_pf fr b n e m inf c (b + 9) = nI c ∧ x_pf fr b n e m inf c (b + 10) = 0 := by
  unfold x_pf
  refine ⟨?_, ?_, ?_, ?_, ?_, ?_, ?_, ?_⟩ <;> simp (disch := decide) only [up_n, up_s]
theorem x_pf_b {fr : Nat → Int32} {b n e m c j : Nat} {inf : Int32} (h : j < b) : x_pf fr b n e m inf c j = fr j := by
  unfold x_pf
  rw [pk_un (by omega), pk_un (by omega), pk_un (by omega), pk_un (by omega), pk_un (by omega), pk_un (by omega), pk_un (by omega), pk_un (by omega)]
theorem x_K1 (G : g_w g V Z pa T) {n : Nat} (hV : V n) : ∀ c cs, gK g n = c :: cs → c = n + 1 ∧ (∀ c' cs', cs = c' :: cs' → c' = c + Z c) := by
  intro c cs e
  obtain ⟨_, _, _, _, _, n6, _⟩ := G.1 n hV
  rw [e] at n6
  refine ⟨n6.1, fun c' cs' e' => ?_⟩
  rw [e'] at n6
  exact (fo_con_2 n6).2
theorem x_ev (G : g_w g V Z pa T) (X : xG g V Z f_openCount f_typeCount a_nodeOp a_nodeA a_nodeB a_nodeParts a_nodeSize a_slotSize a_slotParams a_openLists a_typeParent) {n e : Nat} (hV : V n) (he : e ≤ 5) (hl : l.length < 700) (hs : sBe s ≤ gF g) (h1 : xSp sv sh (sGl s) l) (h2 : xL g fr (sGl s) l) (h : ∀ u', px_R g f_openCount f_typeCount a_nodeOp a_nodeA a_nodeB a_nodeParts a_nodeSize a_slotSize a_slotParams a_openLists a_typeParent (m_ev g n e l s) u' → P u') : wpX_step P (xU g f_openCount f_typeCount a_nodeOp a_nodeA a_nodeB a_nodeParts a_nodeSize a_slotSize a_slotParams a_openLists a_typeParent x_z0 s l.length (nI (m_fc l)) (x_ix (m_ch g l)) 0 (nI n) (nI e) re et ex ey ep sv sh fr) := by
  obtain ⟨n1, n2, n3, n4, n5, n6, n7, n8, n9, n10, n11⟩ := G.1 n hV
  obtain ⟨y1, y2, y3, y4, y5, y6, y7, y8⟩ := X.1 n hV
  have hF : gF g ≤ 200 := G.2.2.2.2.2.2.1
  have K1 := x_K1 G hV
  have hlb : l.length < 2 ^ 31 := by omega
  refine br_f (by decide) (br_f (by decide) (br_t rfl ?_))
  refine xx_n n4 ?_
  rw [y1]
  unfold m_ev at h
  by_cases o27 : gO g n = 27
  · rw [if_pos o27] at h
    refine br_t (by rw [o27]; rfl) ⟨vp_in_nI n4 (by decide), ?_⟩
    rw [nI_clamp (by omega), y4 o27]
    exact x_give _ h1 h2 hlb h
  · rw [if_neg o27] at h
    refine br_f (xx_ne (b := 27) o27 (by omega) (by decide)) ?_
    by_cases o28 : gO g n = 28
    · rw [if_pos o28] at h
      have hA := n8 o28
      have hK := y8 (by omega)
      refine br_t (by rw [o28]; rfl) (xx_n n4 ?_)
      rw [y5 (Or.inl o28)]
      by_cases a8 : gA g n < 8
      · rw [if_pos a8] at h
        refine br_f (nI_ge (b := 8) a8 (by decide)) ⟨?_, ?_⟩
        · rw [show (8 : Int32) = nI 8 from rfl, pk_mul, nI_add]
          exact vp_in_nI (by omega) (by decide)
        · rw [show (8 : Int32) = nI 8 from rfl, pk_mul, nI_add, nI_clamp (by omega), Nat.mul_comm e 8]
          exact x_give _ h1 h2 hlb h
      · rw [if_neg a8] at h
        obtain ⟨j, hj⟩ : ∃ j, gA g n = 8 + j := ⟨gA g n - 8, by omega⟩
        have hj4 : j < 4 := by omega
        have hsp := h1 j hj4
        rw [hj] at h ⊢
        refine br_t (nI_le (a := 8) (by omega) (by omega)) ?_
        rw [x_sub8 (by omega), show 8 + j - 8 = j from by omega]
        refine ⟨vp_in_nI hj4 (by decide), ?_⟩
        rw [nI_clamp (by omega)]
        cases hm : m_cur (sGl s) (8 + j) l with
        | some x =>
          rw [hm] at hsp h
          have hsp : sh j = 1 ∧ sv j = x := hsp
          refine br_f (by rw [hsp.1]; decide) ⟨vp_in_nI hj4 (by decide), ?_⟩
          rw [hsp.2]
          exact x_give _ h1 h2 hlb h
        | none =>
          rw [hm] at hsp h
          have hsp : sh j = 0 := hsp
          refine br_t hsp ?_
          refine x_push l.length n e 0 (m_fc l) n4 hl (by rw [y2, hK]; rfl) ?_
          refine br_f (by decide) ?_
          refine x_top l.length ?_
          refine x_raise (17 * l.length) (by omega) ?_
          obtain ⟨p0, p1, p2, p3, p4, p8, p9, p10⟩ := x_pf_c (fr := fr) (b := 17 * l.length) (n := n) (e := e) (m := 0) (inf := x_ix (m_ch g l)) (c := m_fc l)
          refine h _ ⟨_, _, _, _, _, _, _, _, _, _, ?_, ⟨⟨?_, ?_, ?_, ?_, ?_, ?_, ?_, ?_, ?_, ?_, ?_, ?_, ?_, ?_⟩, xL_keep h2 ?_⟩, fun z => (by cases z), fun z => (by cases z), fun z => (by cases z), rfl⟩
          · exact xSp_c rfl h1
          · simp (disch := decide) only [up_n, up_s]; exact p0
          · simp (disch := decide) only [up_n, up_s]; exact p1
          · simp (disch := decide) only [up_n, up_s]; rfl
          · intro c cs z; cases z
          · simp (disch := decide) only [up_n, up_s]; exact p4
          · intro _ z; exact absurd z (by decide)
          · intro z; cases z
          · intro z; cases z
          · simp (disch := decide) only [up_n, up_s]; exact p8
          · simp (disch := decide) only [up_n, up_s]; exact p9
          · simp (disch := decide) only [up_n, up_s]; exact p10
          · intro z; exact absurd rfl z
          · intro _
            refine ⟨?_, ?_, ?_⟩ <;> simp (disch := decide) only [up_n, up_s]
            rfl
          · intro z; cases z
          · intro j hj
            rw [pk_un (by omega), pk_un (by omega), pk_un (by omega), pk_un (by omega), x_pf_b hj]
    · rw [if_neg o28] at h
      have hO : gO g n ≤ 26 := by omega
      have hle := n7 hO
      refine br_f (xx_ne (b := 28) o28 (by omega) (by decide)) ?_
      refine x_push l.length n e (gK g n).length (m_fc l) n4 hl y2 ?_
      refine br_f (by decide) ?_
      unfold wpX_beginList
      dsimp only
      refine x_top l.length ?_
      refine xx_n n4 ?_
      obtain ⟨p0, p1, p2, p3, p4, p8, p9, p10⟩ := x_pf_c (fr := fr) (b := 17 * l.length) (n := n) (e := e) (m := (gK g n).length) (inf := x_ix (m_ch g l)) (c := m_fc l)
      have pb : ∀ j, j < 17 * l.length → x_pf fr (17 * l.length) n e (gK g n).length (x_ix (m_ch g l)) (m_fc l) j = fr j := fun j hj => x_pf_b hj
      rw [y1]
      generalize x_pf fr (17 * l.length) n e (gK g n).length (x_ix (m_ch g l)) (m_fc l) = fn at p0 p1 p2 p3 p4 p8 p9 p10 pb ⊢
      have hbb : 17 * l.length + 17 ≤ 11900 := by omega
      have hKs : ∀ c cs, gK g n = c :: cs → c = n + 1 := fun c cs e => (K1 c cs e).1
      
      have plain : ∀ {re'}, gO g n ≠ 10 → gO g n ≠ 7 → gO g n ≠ 11 → ¬ (16 ≤ gO g n ∧ gO g n ≤ 18) → P (xU g f_openCount f_typeCount a_nodeOp a_nodeA a_nodeB a_nodeParts a_nodeSize a_slotSize a_slotParams a_openLists a_typeParent x_z0 s (l.length + 1) (nI (m_fc l)) (x_ix (m_ch g l)) 1 (nI n) (nI e) re' et ex ey ep sv sh fn) := by
        intro re' o10 o7 o11 o16
        rw [if_neg o10] at h
        have em : m_new g n e = ((n, e, 0, gK g n), (0, 0, 0, 0), (0, 0, 0, 0), 0, [], 0, none, 0) := by
          unfold m_new
          rw [if_neg (by omega), if_neg o16]
        rw [em] at h
        exact h _ ⟨nI n, nI e, re', et, ex, ey, ep, sv, sh, fn, xSp_c rfl h1, ⟨xF_new (by decide) p0 p1 p2 (fun c cs z => by rw [p3, hKs c cs z]) p4 p8 p9 p10, xL_keep h2 pb⟩, fun _ f r z z1 => (by injection z with z2 z3; rw [← z2] at z1; cases z1), fun z => (by cases z), fun z => (by cases z), rfl⟩
      have body : gO g n = 7 ∨ gO g n = 11 → P (xU g f_openCount f_typeCount a_nodeOp a_nodeA a_nodeB a_nodeParts a_nodeSize a_slotSize a_slotParams a_openLists a_typeParent x_z0 s (l.length + 1) (nI (m_fc l)) (x_ix (m_ch g l)) 1 (nI n) (nI e) 0 et ex ey ep sv sh (upd fn (17 * l.length + 2) 1)) := by
        intro o
        rw [if_neg (by omega)] at h
        have em : m_new g n e = ((n, e, 1, gK g n), (0, 0, 0, 0), (0, 0, 0, 0), 0, [], 0, none, 0) := by
          unfold m_new
          rw [if_pos (by omega), if_neg (by omega)]
        have ec : m_ch g (m_new g n e :: l) = m_ch g l := by
          rw [em]
          exact (if_neg (by show ¬ (1 : Nat) = 7; decide)).trans (if_neg (by show ¬ ((1 : Nat) = 1 ∧ (gO g n = 16 ∨ gO g n = 17)); omega))
        refine h _ ⟨nI n, nI e, 0, et, ex, ey, ep, sv, sh, upd fn (17 * l.length + 2) 1, ?_, ⟨?_, xL_keep h2 ?_⟩, fun _ f r z z1 => ?_, fun z => (by cases z), fun z => (by cases z), ?_⟩
        · exact xSp_c rfl h1
        · rw [em]
          refine xF_new (by decide) ?_ ?_ ?_ (fun c cs z => ?_) ?_ ?_ ?_ ?_ <;> simp (disch := decide) only [up_n, up_s]
          · exact p0
          · exact p1
          · rfl
          · rw [p3, hKs c cs z]
          · exact p4
          · exact p8
          · exact p9
          · exact p10
        · intro j hj
          rw [pk_un (by omega)]; exact pb j hj
        · injection z with z2 z3
          rw [← z2, em]; rfl
        · show _ = xU g f_openCount f_typeCount a_nodeOp a_nodeA a_nodeB a_nodeParts a_nodeSize a_slotSize a_slotParams a_openLists a_typeParent _ s (l.length + 1) (nI (m_fc (m_new g n e :: l))) (x_ix (m_ch g (m_new g n e :: l))) _ _ _ _ _ _ _ _ _ _ _
          rw [ec, em]; rfl
      have hsk : 16 ≤ gO g n → gO g n ≤ 18 → ∃ c cs, gK g n = c :: cs ∧ c = n + 1 ∧ c < 392 ∧ a_nodeSize c = nI (Z c) ∧ ∀ c' cs', cs = c' :: cs' → c' = c + Z c := by
        intro o1 o2
        have hl1 : 1 ≤ (gK g n).length := by
          have : fo_least (gO g n) = 1 := by
            unfold fo_least
            rw [if_neg (by omega), if_neg (by omega), if_neg (by omega)]
          omega
        cases hK : gK g n with
        | nil => rw [hK] at hl1; exact absurd hl1 (by decide)
        | cons c cs =>
          have hc := (n5 c (by rw [hK]; exact List.mem_cons_self ..)).1
          exact ⟨c, cs, rfl, (K1 c cs hK).1, (G.1 c hc).2.2.2.1, (X.1 c hc).2.2.1, (K1 c cs hK).2⟩
      have clau : ∀ {inf' : Int32}, (o1 : 16 ≤ gO g n) → (o2 : gO g n ≤ 18) → inf' = x_ix (m_ch g (m_new g n e :: l)) → ∀ c cs, gK g n = c :: cs → (∀ c' cs', cs = c' :: cs' → c' = c + Z c) → P (xU g f_openCount f_typeCount a_nodeOp a_nodeA a_nodeB a_nodeParts a_nodeSize a_slotSize a_slotParams a_openLists a_typeParent x_z0 s (l.length + 1) (nI (m_fc l)) inf' 1 (nI n) (nI e) 0 et ex ey ep sv sh (upd (upd (upd fn (17 * l.length + 3) (nI (c + Z c))) (17 * l.length + 4) (nI cs.length)) (17 * l.length + 2) 1)) := by
        intro inf' o1 o2 hinf c cs hK hc'
        rw [if_neg (by omega)] at h
        have em : m_new g n e = ((n, e, 1, cs), (0, 0, 0, 0), (0, 0, 0, 0), 0, [], 0, none, 0) := by
          unfold m_new
          rw [if_pos (by omega), if_pos ⟨o1, o2⟩, hK]
          rfl
        refine h _ ⟨nI n, nI e, 0, et, ex, ey, ep, sv, sh, upd (upd (upd fn (17 * l.length + 3) (nI (c + Z c))) (17 * l.length + 4) (nI cs.length)) (17 * l.length + 2) 1, ?_, ⟨?_, xL_keep h2 ?_⟩, fun _ f r z z1 => ?_, fun z => (by cases z), fun z => (by cases z), ?_⟩
        · exact xSp_c rfl h1
        · rw [em]
          refine xF_new (by decide) ?_ ?_ ?_ (fun c' cs' z => ?_) ?_ ?_ ?_ ?_ <;> simp (disch := decide) only [up_n, up_s]
          · exact p0
          · exact p1
          · rfl
          · rw [hc' c' cs' z]
          · exact p8
          · exact p9
          · exact p10
        · intro j hj
          rw [pk_un (by omega), pk_un (by omega), pk_un (by omega)]; exact pb j hj
        · injection z with z2 z3
          rw [← z2, em]; rfl
        · show _ = xU g f_openCount f_typeCount a_nodeOp a_nodeA a_nodeB a_nodeParts a_nodeSize a_slotSize a_slotParams a_openLists a_typeParent _ s (l.length + 1) (nI (m_fc (m_new g n e :: l))) (x_ix (m_ch g (m_new g n e :: l))) _ _ _ _ _ _ _ _ _ _ _
          rw [← hinf, em]; rfl
      have clau1 : gO g n = 16 ∨ gO g n = 17 → x_ix (m_ch g (m_new g n e :: l)) = nI l.length := by
        intro o
        have em : fr_ph (m_new g n e) = 1 := if_pos (by omega)
        have : m_ch g (m_new g n e :: l) = (l.length, n, e) :: m_ch g l := (if_neg (by rw [em]; decide)).trans (if_pos ⟨em, o⟩)
        rw [this]; rfl
      have clau2 : gO g n = 18 → x_ix (m_ch g (m_new g n e :: l)) = x_ix (m_ch g l) := by
        intro o
        have em : fr_ph (m_new g n e) = 1 := if_pos (by omega)
        have : m_ch g (m_new g n e :: l) = m_ch g l := (if_neg (by rw [em]; decide)).trans (if_neg (by show ¬ (_ ∧ (gO g n = 16 ∨ gO g n = 17)); omega))
        rw [this]
      refine fb_if (nI_ltI (b := 7) (by omega) (by decide)) (fun o => plain (by omega) (by omega) (by omega) (by omega)) (fun o => ?_)
      refine fb_if (nI_ltI (a := 18) (by decide) (by omega)) (fun o => plain (by omega) (by omega) (by omega) (by omega)) (fun o => ?_)
      refine fb_if (nI_eq (b := 7) (by omega) (by decide)) (fun o => x_body _ hbb (body (Or.inl o))) (fun o => ?_)
      refine fb_if (nI_eq (b := 8) (by omega) (by decide)) (fun o => plain (by omega) (by omega) (by omega) (by omega)) (fun o => ?_)
      refine fb_if (nI_eq (b := 9) (by omega) (by decide)) (fun o => plain (by omega) (by omega) (by omega) (by omega)) (fun o => ?_)
      refine fb_if (nI_eq (b := 10) (by omega) (by decide)) (fun o => ?_) (fun o => ?_)
      · rw [if_pos o] at h
        have em : m_new g n e = ((n, e, 0, gK g n), (0, 0, 0, 0), (0, 0, 0, 0), 0, [], 0, none, 0) := by
          unfold m_new
          rw [if_neg (by omega), if_neg (by omega)]
        rw [em] at h
        refine x_round (17 * l.length) n (gK g n).length hbb n4 hs hF p0 y2 (fun q => ?_) (fun q => ?_)
        · rw [if_pos q] at h
          refine h _ ⟨nI n, nI e, re, et, ex, ey, ep, sv, sh, upd (upd (upd fn (17 * l.length + 2) 0) (17 * l.length + 3) (nI (n + 1))) (17 * l.length + 4) (nI (gK g n).length), xSp_c rfl h1, ⟨?_, xL_keep h2 ?_⟩, fun _ f r z z1 => (by injection z with z2 z3; rw [← z2] at z1; cases z1), fun z => (by cases z), fun z => (by cases z), rfl⟩
          · refine xF_new (by decide) ?_ ?_ ?_ (fun c cs z => ?_) ?_ ?_ ?_ ?_ <;> simp (disch := decide) only [up_n, up_s]
            · exact p0
            · exact p1
            · rfl
            · rw [hKs c cs z]
            · exact p8
            · exact p9
            · exact p10
          · intro j hj
            rw [pk_un (by omega), pk_un (by omega), pk_un (by omega)]; exact pb j hj
        · rw [if_neg (by omega)] at h
          exact h _ ⟨nI n, nI e, _, et, ex, ey, ep, sv, sh, fn, xSp_c rfl h1, ⟨xF_new (by decide) p0 p1 p2 (fun c cs z => by rw [p3, hKs c cs z]) p4 p8 p9 p10, xL_keep h2 pb⟩, fun z => (by cases z), fun z => (by cases z), fun z => (by cases z), rfl⟩
      refine fb_if (nI_eq (b := 11) (by omega) (by decide)) (fun o => x_body _ hbb (body (Or.inr o))) (fun o => ?_)
      refine fb_if (nI_eq (b := 12) (by omega) (by decide)) (fun o => plain (by omega) (by omega) (by omega) (by omega)) (fun o => ?_)
      refine fb_if (nI_eq (b := 13) (by omega) (by decide)) (fun o => plain (by omega) (by omega) (by omega) (by omega)) (fun o => ?_)
      refine fb_if (nI_eq (b := 14) (by omega) (by decide)) (fun o => plain (by omega) (by omega) (by omega) (by omega)) (fun o => ?_)
      refine fb_if (nI_eq (b := 15) (by omega) (by decide)) (fun o => plain (by omega) (by omega) (by omega) (by omega)) (fun o => ?_)
      obtain ⟨c, cs, hK, hcn, hc3, hcz, hc'⟩ := hsk (by omega) (by omega)
      have h3 : fn (17 * l.length + 3) = nI c := by rw [p3, hcn]
      have h4 : fn (17 * l.length + 4) = nI (cs.length + 1) := by rw [p4, hK]; rfl
      refine fb_if (nI_eq (b := 16) (by omega) (by decide)) (fun o => ?_) (fun o => ?_)
      · refine x_skip (17 * l.length) c cs.length (Z c) hbb hc3 h3 hcz h4 (x_body _ hbb (nm_r (nI_pred _) (clau (by omega) (by omega) (clau1 (Or.inl o)).symm c cs hK hc')))
      refine fb_if (nI_eq (b := 17) (by omega) (by decide)) (fun o => ?_) (fun o => ?_)
      · refine x_skip (17 * l.length) c cs.length (Z c) hbb hc3 h3 hcz h4 (x_body _ hbb (nm_r (nI_pred _) (clau (by omega) (by omega) (clau1 (Or.inr o)).symm c cs hK hc')))
      refine fb_if (nI_eq (b := 18) (by omega) (by decide)) (fun o => ?_) (fun o => trivial)
      exact x_skip (17 * l.length) c cs.length (Z c) hbb hc3 h3 hcz h4 (x_body _ hbb (clau (by omega) (by omega) (clau2 o).symm c cs hK hc'))
end
