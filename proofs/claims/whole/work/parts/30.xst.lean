/-! the class's side: its state while it runs, its frames, the loop of run -/
def x_ix : List (Nat × Nat × Nat) → Int32
  | [] => -1
  | (h, _, _) :: _ => nI h
def x_tg : Option Nat → Int32
  | none => -1
  | some h => nI h
def x_sp (v h : Int32) : Option Int32 → Prop
  | none => h = 0
  | some x => h = 1 ∧ v = x
def xF (g : mG) (fr : Nat → Int32) (gl : Nat → Option Int32) (b : Nat) (f : Fr) (r : List Fr) : Prop := match f with
  | ((nd, ev, ph, rm), (gt, x0, x1, x2), (la, bv, bx, ty), dt, sc, sr, tg, pl) => fr (b + 0) = nI nd ∧ fr (b + 1) = nI ev ∧ fr (b + 2) = nI (if ph = 8 then 4 else ph) ∧ (∀ c cs, rm = c :: cs → fr (b + 3) = nI c) ∧ fr (b + 4) = nI rm.length ∧
    (ph = 0 ∨ ph = 2 ∨ (ph = 1 ∧ gO g nd = 13) → 0 < gt → fr (b + 5) = x0) ∧ (ph = 0 → 1 < gt → fr (b + 6) = x1) ∧ (ph = 0 → 2 < gt → fr (b + 7) = x2) ∧
    fr (b + 8) = x_ix (m_ch g r) ∧ fr (b + 9) = nI (m_fc r) ∧ fr (b + 10) = nI bv ∧ (bv ≠ 0 → x_sp (fr (b + 11)) (fr (b + 12)) (m_cur gl bv r)) ∧
    (ph = 4 ∨ ph = 8 → fr (b + 13) = nI ty ∧ fr (b + 14) = dt ∧ fr (b + 15) = x_ix sc) ∧
    (ph = 3 → fr (b + 14) = dt ∧ fr (b + 15) = x_tg tg ∧ (tg = none → fr (b + 13) = nI ty ∧ fr (b + 16) = pl))
def xL (g : mG) (fr : Nat → Int32) (gl : Nat → Option Int32) : List Fr → Prop
  | [] => True
  | f :: r => xF g fr gl (17 * r.length) f r ∧ xL g fr gl r
def xSp (sv sh : Nat → Int32) (gl : Nat → Option Int32) (l : List Fr) : Prop := ∀ j, j < 4 → x_sp (sv j) (sh j) (m_cur gl (8 + j) l)
def xU (g : mG) (f_openCount f_typeCount : Int32) (a_nodeOp a_nodeA a_nodeB a_nodeParts a_nodeSize a_slotSize a_slotParams a_openLists a_typeParent : Nat → Int32) (z : Int32 × Int32 × Int32 × Int32 × Int32) (s : St) (n : Nat) (ca inf mo cn ce re et ex ey ep : Int32) (sv sh fr : Nat → Int32) : SX := (f_openCount, f_typeCount, nI (sPr s), nI (gD g), nI (gF g), z.1, z.2.1, z.2.2.1, z.2.2.2.1, z.2.2.2.2, nI (sBe s), nI n, mo, cn, ce, re, ca, inf, et, ex, ey, ep, a_nodeOp, a_nodeA, a_nodeB, a_nodeParts, a_nodeSize, a_slotSize, a_slotParams, a_openLists, a_typeParent, sCe s, sLo s, sv, sh, sOu s, fr)
def x_z0 : Int32 × Int32 × Int32 × Int32 × Int32 := (2, 0, 0, 0, -1)
def x_z (m : MS) : Int32 × Int32 × Int32 × Int32 × Int32 := match m with
  | (4, v, _) => (0, v, 0, 0, -1)
  | (5, v, _, t, p, _) => (1, 0, nI t, v, p)
  | _ => (2, 0, 0, 0, -1)
def x_mo : Nat → Int32
  | 0 => 1
  | 1 => 4
  | 2 => 5
  | 3 => 6
  | _ => 7
def px_R (g : mG) (f_openCount f_typeCount : Int32) (a_nodeOp a_nodeA a_nodeB a_nodeParts a_nodeSize a_slotSize a_slotParams a_openLists a_typeParent : Nat → Int32) (m : MS) (u : SX) : Prop := ∃ cn ce re et ex ey ep : Int32, ∃ sv sh fr : Nat → Int32, xSp sv sh (sGl m.2.2.2.2.2.2) m.2.2.2.2.2.1 ∧ xL g fr (sGl m.2.2.2.2.2.2) m.2.2.2.2.2.1 ∧
  (m.1 = 0 → ∀ f r, m.2.2.2.2.2.1 = f :: r → fr_ph f = 1 → re = fr_la f) ∧ (m.1 = 1 → re = m.2.1) ∧ (m.1 = 3 → ex = m.2.1 ∧ et = x_tg m.2.2.1 ∧ (m.2.2.1 = none → ey = nI m.2.2.2.1 ∧ ep = m.2.2.2.2.1)) ∧
  u = xU g f_openCount f_typeCount a_nodeOp a_nodeA a_nodeB a_nodeParts a_nodeSize a_slotSize a_slotParams a_openLists a_typeParent (x_z m) m.2.2.2.2.2.2 m.2.2.2.2.2.1.length (nI (m_fc m.2.2.2.2.2.1)) (x_ix (m_ch g m.2.2.2.2.2.1)) (x_mo m.1) cn ce re et ex ey ep sv sh fr
/-- the program as the class keeps it -/
def xG (g : mG) (V : Nat → Prop) (Z : Nat → Nat) (f_openCount f_typeCount : Int32) (a_nodeOp a_nodeA a_nodeB a_nodeParts a_nodeSize a_slotSize a_slotParams a_openLists a_typeParent : Nat → Int32) : Prop :=
  (∀ n, V n → a_nodeOp n = nI (gO g n) ∧ a_nodeParts n = nI (gK g n).length ∧ a_nodeSize n = nI (Z n) ∧ (gO g n = 27 → a_nodeA n = gN g n) ∧ (gO g n = 28 ∨ fo_ma (gO g n) → a_nodeA n = nI (gA g n)) ∧ (16 ≤ gO g n → gO g n ≤ 18 → a_nodeB n = nI (gB g n)) ∧ (gO g n = 12 → gR g n ≤ n ∧ a_nodeB n = nI (n - gR g n)) ∧ (27 ≤ gO g n → gK g n = [])) ∧
  (∀ f, f < 6 → a_slotSize f = nI (gC g f) ∧ gC g f ≤ 56 ∧ a_slotParams f = nI (gP g f)) ∧
  (∃ p : Nat → Nat, (∀ t, t < 16 → a_typeParent t = nI (p t) ∧ (1 ≤ t → p t < t)) ∧ ∀ t a, t ≤ 15 → gI g t a = fo_ia p 16 t a)
theorem up_s {f : Nat → Int32} {b c : Nat} {x : Int32} : upd f (b + c) x (b + c) = x := if_pos rfl
theorem up_n {f : Nat → Int32} {b c d : Nat} {x : Int32} (h : d ≠ c) : upd f (b + c) x (b + d) = f (b + d) := if_neg (by omega)
theorem xx_w {b : Nat} {c : Int32} {N : Nat} {fr : Nat → Int32} {v : Int32} {Q : (Nat → Int32) → Prop} (k : Nat) (hk : b + k < N) (h : Q (upd fr (b + k) v)) (hc : c = nI k := by rfl) (hN : N < 2 ^ 31 := by decide) : vp_in (nI b + c) N ∧ ∀ y, y = upd fr (nI b + c).toNatClampNeg v → Q y := by
  subst hc
  rw [nI_add, nI_clamp (by omega)]
  exact ⟨vp_in_nI hk hN, fun y hy => by rw [hy]; exact h⟩
theorem xx_r {b : Nat} {c : Int32} {N : Nat} {fr : Nat → Int32} {Q : Int32 → Prop} (k : Nat) (hk : b + k < N) (h : Q (fr (b + k))) (hc : c = nI k := by rfl) (hN : N < 2 ^ 31 := by decide) : vp_in (nI b + c) N ∧ ∀ y, y = fr (nI b + c).toNatClampNeg → Q y := by
  subst hc
  rw [nI_add, nI_clamp (by omega)]
  exact ⟨vp_in_nI hk hN, fun y hy => by rw [hy]; exact h⟩
theorem xx_i {b : Nat} {c : Int32} {N : Nat} (k : Nat) (hk : b + k < N) (hc : c = nI k := by rfl) (hN : N < 2 ^ 31 := by decide) : vp_in (nI b + c) N := by
  subst hc
  rw [nI_add]
  exact vp_in_nI hk hN
theorem xx_c {b : Nat} (c : Int32) (k : Nat) (hk : b + k < 2 ^ 31) (hc : c = nI k := by rfl) : (nI b + c).toNatClampNeg = b + k := by
  subst hc
  rw [nI_add, nI_clamp (by omega)]
theorem xx_n {n N : Nat} {a : Nat → Int32} {Q : Int32 → Prop} (hn : n < N) (h : Q (a n)) (hN : N < 2 ^ 31 := by decide) : vp_in (nI n) N ∧ ∀ y, y = a (nI n).toNatClampNeg → Q y := by
  rw [nI_clamp (by omega)]
  exact ⟨vp_in_nI hn hN, fun y hy => by rw [hy]; exact h⟩
theorem xF_keep {g : mG} {fr fr' : Nat → Int32} {gl : Nat → Option Int32} {b : Nat} {f : Fr} {r : List Fr} (h : xF g fr gl b f r) (e : ∀ c, c < 17 → fr' (b + c) = fr (b + c)) : xF g fr' gl b f r := by
  obtain ⟨⟨nd, ev, ph, rm⟩, ⟨gt, x0, x1, x2⟩, ⟨la, bv, bx, ty⟩, dt, sc, sr, tg, pl⟩ := f
  have h : xF g fr gl b ((nd, ev, ph, rm), (gt, x0, x1, x2), (la, bv, bx, ty), dt, sc, sr, tg, pl) r := h
  unfold xF at h ⊢
  rw [e 0 (by decide), e 1 (by decide), e 2 (by decide), e 3 (by decide), e 4 (by decide), e 5 (by decide), e 6 (by decide), e 7 (by decide), e 8 (by decide), e 9 (by decide), e 10 (by decide), e 11 (by decide), e 12 (by decide), e 13 (by decide), e 14 (by decide), e 15 (by decide), e 16 (by decide)]
  exact h
theorem xL_keep {g : mG} {fr fr' : Nat → Int32} {gl : Nat → Option Int32} : ∀ {l : List Fr}, xL g fr gl l → (∀ j, j < 17 * l.length → fr' j = fr j) → xL g fr' gl l
  | [], _, _ => trivial
  | f :: r, h, e => by
    have e : ∀ j, j < 17 * (r.length + 1) → fr' j = fr j := e
    exact ⟨xF_keep h.1 (fun c hc => e _ (by omega)), xL_keep h.2 (fun j hj => e j (by omega))⟩
theorem xL_at {g : mG} {fr : Nat → Int32} {gl : Nat → Option Int32} : ∀ {l : List Fr}, xL g fr gl l → ∀ {q : Fr} {r : List Fr}, (q :: r) <:+ l → xF g fr gl (17 * r.length) q r
  | [], _, q, r, hs => absurd (List.suffix_nil.mp hs) (by simp)
  | f :: r0, h, q, r, hs => by
    rcases List.suffix_cons_iff.mp hs with k | k
    · injection k with k1 k2
      subst k1 k2
      exact h.1
    · exact xL_at h.2 k
theorem xSp_c {sv sh : Nat → Int32} {gl : Nat → Option Int32} {l : List Fr} {f : Fr} (hb : fr_bv f = 0) (h : xSp sv sh gl l) : xSp sv sh gl (f :: l) := by
  intro j hj
  have e : m_cur gl (8 + j) (f :: l) = m_cur gl (8 + j) l := if_neg (by rw [hb]; omega)
  rw [e]
  exact h j hj
theorem xSp_d {sv sh : Nat → Int32} {gl : Nat → Option Int32} {l : List Fr} {f : Fr} (hb : fr_bv f = 0) (h : xSp sv sh gl (f :: l)) : xSp sv sh gl l := by
  intro j hj
  have e : m_cur gl (8 + j) (f :: l) = m_cur gl (8 + j) l := if_neg (by rw [hb]; omega)
  rw [← e]
  exact h j hj
def xR (post : Int32 → SX → Prop) (N i : Nat) (u : SX) : Prop := match u with
  | (f_openCount, f_typeCount, f_printedCount, f_depthLimit, f_fuelLimit, f_lastStatus, f_lastValue, f_lastError, f_lastDatum, f_lastPlace, f_beatsUsed, f_frameCount, f_mode, f_currentNode, f_currentEnv, f_result, f_calls, f_inForce, f_exitTarget, f_exitValue, f_exitType, f_exitPlace, a_nodeOp, a_nodeA, a_nodeB, a_nodeParts, a_nodeSize, a_slotSize, a_slotParams, a_openLists, a_typeParent, a_elements, a_locals, a_specialValue, a_specialHas, a_printed, a_frames) => wX_run_15 post N (nI i) f_openCount f_typeCount f_printedCount f_depthLimit f_fuelLimit f_lastStatus f_lastValue f_lastError f_lastDatum f_lastPlace f_beatsUsed f_frameCount f_mode f_currentNode f_currentEnv f_result f_calls f_inForce f_exitTarget f_exitValue f_exitType f_exitPlace a_nodeOp a_nodeA a_nodeB a_nodeParts a_nodeSize a_slotSize a_slotParams a_openLists a_typeParent a_elements a_locals a_specialValue a_specialHas a_printed a_frames
theorem x_go {post : Int32 → SX → Prop} {N i : Nat} {f_openCount f_typeCount f_printedCount f_depthLimit f_fuelLimit f_lastStatus f_lastValue f_lastError f_lastDatum f_lastPlace f_beatsUsed f_frameCount f_mode f_currentNode f_currentEnv f_result f_calls f_inForce f_exitTarget f_exitValue f_exitType f_exitPlace : Int32} {a_nodeOp a_nodeA a_nodeB a_nodeParts a_nodeSize a_slotSize a_slotParams a_openLists a_typeParent a_elements a_locals a_specialValue a_specialHas a_printed a_frames : Nat → Int32} (hi : i < 10000000) (h7 : ¬ f_mode = 7) (h : wpX_step (fun u => xR post N (i + 1) u) (f_openCount, f_typeCount, f_printedCount, f_depthLimit, f_fuelLimit, f_lastStatus, f_lastValue, f_lastError, f_lastDatum, f_lastPlace, f_beatsUsed, f_frameCount, f_mode, f_currentNode, f_currentEnv, f_result, f_calls, f_inForce, f_exitTarget, f_exitValue, f_exitType, f_exitPlace, a_nodeOp, a_nodeA, a_nodeB, a_nodeParts, a_nodeSize, a_slotSize, a_slotParams, a_openLists, a_typeParent, a_elements, a_locals, a_specialValue, a_specialHas, a_printed, a_frames)) : xR post (N + 1) i (f_openCount, f_typeCount, f_printedCount, f_depthLimit, f_fuelLimit, f_lastStatus, f_lastValue, f_lastError, f_lastDatum, f_lastPlace, f_beatsUsed, f_frameCount, f_mode, f_currentNode, f_currentEnv, f_result, f_calls, f_inForce, f_exitTarget, f_exitValue, f_exitType, f_exitPlace, a_nodeOp, a_nodeA, a_nodeB, a_nodeParts, a_nodeSize, a_slotSize, a_slotParams, a_openLists, a_typeParent, a_elements, a_locals, a_specialValue, a_specialHas, a_printed, a_frames) := by
  show wX_run_15 post (N + 1) (nI i) f_openCount f_typeCount f_printedCount f_depthLimit f_fuelLimit f_lastStatus f_lastValue f_lastError f_lastDatum f_lastPlace f_beatsUsed f_frameCount f_mode f_currentNode f_currentEnv f_result f_calls f_inForce f_exitTarget f_exitValue f_exitType f_exitPlace a_nodeOp a_nodeA a_nodeB a_nodeParts a_nodeSize a_slotSize a_slotParams a_openLists a_typeParent a_elements a_locals a_specialValue a_specialHas a_printed a_frames
  rw [wX_run_15]
  refine br_f (nI_ge (b := 10000000) hi (by decide)) (br_f h7 ?_)
  have e : (fun u : SX => match u with | (f_openCount_160, f_typeCount_160, f_printedCount_160, f_depthLimit_160, f_fuelLimit_160, f_lastStatus_160, f_lastValue_160, f_lastError_160, f_lastDatum_160, f_lastPlace_160, f_beatsUsed_160, f_frameCount_160, f_mode_160, f_currentNode_160, f_currentEnv_160, f_result_160, f_calls_160, f_inForce_160, f_exitTarget_160, f_exitValue_160, f_exitType_160, f_exitPlace_160, a_nodeOp_160, a_nodeA_160, a_nodeB_160, a_nodeParts_160, a_nodeSize_160, a_slotSize_160, a_slotParams_160, a_openLists_160, a_typeParent_160, a_elements_160, a_locals_160, a_specialValue_160, a_specialHas_160, a_printed_160, a_frames_160) => ∀ y : Int32, y = nI i + 1 → wX_run_15 post N y f_openCount_160 f_typeCount_160 f_printedCount_160 f_depthLimit_160 f_fuelLimit_160 f_lastStatus_160 f_lastValue_160 f_lastError_160 f_lastDatum_160 f_lastPlace_160 f_beatsUsed_160 f_frameCount_160 f_mode_160 f_currentNode_160 f_currentEnv_160 f_result_160 f_calls_160 f_inForce_160 f_exitTarget_160 f_exitValue_160 f_exitType_160 f_exitPlace_160 a_nodeOp_160 a_nodeA_160 a_nodeB_160 a_nodeParts_160 a_nodeSize_160 a_slotSize_160 a_slotParams_160 a_openLists_160 a_typeParent_160 a_elements_160 a_locals_160 a_specialValue_160 a_specialHas_160 a_printed_160 a_frames_160) = fun u => xR post N (i + 1) u := by
    funext u
    obtain ⟨f_openCount_160, f_typeCount_160, f_printedCount_160, f_depthLimit_160, f_fuelLimit_160, f_lastStatus_160, f_lastValue_160, f_lastError_160, f_lastDatum_160, f_lastPlace_160, f_beatsUsed_160, f_frameCount_160, f_mode_160, f_currentNode_160, f_currentEnv_160, f_result_160, f_calls_160, f_inForce_160, f_exitTarget_160, f_exitValue_160, f_exitType_160, f_exitPlace_160, a_nodeOp_160, a_nodeA_160, a_nodeB_160, a_nodeParts_160, a_nodeSize_160, a_slotSize_160, a_slotParams_160, a_openLists_160, a_typeParent_160, a_elements_160, a_locals_160, a_specialValue_160, a_specialHas_160, a_printed_160, a_frames_160⟩ := u
    refine propext ⟨fun h => h _ (nI_1 i).symm, fun h y hy => ?_⟩
    rw [hy, nI_1]
    exact h
  exact (congrArg (fun Q => wpX_step Q (f_openCount, f_typeCount, f_printedCount, f_depthLimit, f_fuelLimit, f_lastStatus, f_lastValue, f_lastError, f_lastDatum, f_lastPlace, f_beatsUsed, f_frameCount, f_mode, f_currentNode, f_currentEnv, f_result, f_calls, f_inForce, f_exitTarget, f_exitValue, f_exitType, f_exitPlace, a_nodeOp, a_nodeA, a_nodeB, a_nodeParts, a_nodeSize, a_slotSize, a_slotParams, a_openLists, a_typeParent, a_elements, a_locals, a_specialValue, a_specialHas, a_printed, a_frames)) e).mpr h
theorem xx_ne {a b : Nat} (h : a ≠ b) (ha : a < 2 ^ 31) (hb : b < 2 ^ 31) : ¬ nI a = nI b := fun z => h ((nI_eq ha hb).mp z)
theorem x_top {f_openCount f_typeCount f_printedCount f_depthLimit f_fuelLimit f_lastStatus f_lastValue f_lastError f_lastDatum f_lastPlace f_beatsUsed f_frameCount f_mode f_currentNode f_currentEnv f_result f_calls f_inForce f_exitTarget f_exitValue f_exitType f_exitPlace : Int32} {a_nodeOp a_nodeA a_nodeB a_nodeParts a_nodeSize a_slotSize a_slotParams a_openLists a_typeParent a_elements a_locals a_specialValue a_specialHas a_printed a_frames : Nat → Int32} {Q : Int32 → Prop} (n : Nat) (h : Q (nI (17 * n))) (hf : f_frameCount = nI (n + 1) := by rfl) : wpX_topFrame Q (f_openCount, f_typeCount, f_printedCount, f_depthLimit, f_fuelLimit, f_lastStatus, f_lastValue, f_lastError, f_lastDatum, f_lastPlace, f_beatsUsed, f_frameCount, f_mode, f_currentNode, f_currentEnv, f_result, f_calls, f_inForce, f_exitTarget, f_exitValue, f_exitType, f_exitPlace, a_nodeOp, a_nodeA, a_nodeB, a_nodeParts, a_nodeSize, a_slotSize, a_slotParams, a_openLists, a_typeParent, a_elements, a_locals, a_specialValue, a_specialHas, a_printed, a_frames) := by
  subst hf
  show Q ((nI (n + 1) - 1) * 17)
  rw [nI_pred, show (17 : Int32) = nI 17 from rfl, pk_mul, Nat.mul_comm]
  exact h
section
variable {g : mG} {V : Nat → Prop} {Z : Nat → Nat} {pa : Nat → Option Nat} {T : Nat} {f_openCount f_typeCount : Int32} {a_nodeOp a_nodeA a_nodeB a_nodeParts a_nodeSize a_slotSize a_slotParams a_openLists a_typeParent : Nat → Int32} {s : St} {n : Nat} {ca inf mo cn ce re et ex ey ep : Int32} {sv sh fr : Nat → Int32} {l r : List Fr} {f : Fr} {P : SX → Prop}
theorem x_give (v : Int32) (h1 : xSp sv sh (sGl s) l) (h2 : xL g fr (sGl s) l) (hl : l.length < 2 ^ 31) (h : ∀ u', px_R g f_openCount f_typeCount a_nodeOp a_nodeA a_nodeB a_nodeParts a_nodeSize a_slotSize a_slotParams a_openLists a_typeParent (m_dlv l v s) u' → P u') : wpX_giveResult P (xU g f_openCount f_typeCount a_nodeOp a_nodeA a_nodeB a_nodeParts a_nodeSize a_slotSize a_slotParams a_openLists a_typeParent x_z0 s l.length (nI (m_fc l)) (x_ix (m_ch g l)) mo cn ce re et ex ey ep sv sh fr) v := by
  cases l with
  | nil =>
    refine br_t (by rfl) (h _ ⟨cn, ce, v, et, ex, ey, ep, sv, sh, fr, h1, h2, fun z => (by cases z), fun z => (by cases z), fun z => (by cases z), rfl⟩)
  | cons f r =>
    refine br_f ?_ (h _ ⟨cn, ce, v, et, ex, ey, ep, sv, sh, fr, h1, h2, fun z => (by cases z), fun _ => rfl, fun z => (by cases z), rfl⟩)
    exact xx_ne (a := r.length + 1) (b := 0) (by omega) hl (by decide)
theorem x_sub8 {v : Nat} (h1 : 8 ≤ v) : nI v - 8 = nI (v - 8) := pk_sub (b := 8) h1
theorem x_pop (h1 : xSp sv sh (sGl s) (f :: r)) (h2 : xL g fr (sGl s) (f :: r)) (hb : fr_bv f = 0 ∨ (8 ≤ fr_bv f ∧ fr_bv f < 12)) (hl : r.length < 700) (h : ∀ sv' sh', xSp sv' sh' (sGl s) r → P (xU g f_openCount f_typeCount a_nodeOp a_nodeA a_nodeB a_nodeParts a_nodeSize a_slotSize a_slotParams a_openLists a_typeParent x_z0 s r.length (nI (m_fc r)) (x_ix (m_ch g r)) mo cn ce re et ex ey ep sv' sh' fr)) : wpX_popFrame P (xU g f_openCount f_typeCount a_nodeOp a_nodeA a_nodeB a_nodeParts a_nodeSize a_slotSize a_slotParams a_openLists a_typeParent x_z0 s (r.length + 1) ca inf mo cn ce re et ex ey ep sv sh fr) := by
  obtain ⟨⟨nd, ev, ph, rm⟩, ⟨gt, x0, x1, x2⟩, ⟨la, bv, bx, ty⟩, dt, sc, sr, tg, pl⟩ := f
  have hb : bv = 0 ∨ (8 ≤ bv ∧ bv < 12) := hb
  obtain ⟨⟨c0, c1, c2, c3, c4, c5, c6, c7, c8, c9, c10, c11, c12, c13⟩, _⟩ := h2
  have hk : ∀ sv' sh', xSp sv' sh' (sGl s) r → wX_popFrame_63 P (nI (17 * r.length)) f_openCount f_typeCount (nI (sPr s)) (nI (gD g)) (nI (gF g)) (x_z0.1) (x_z0.2.1) (x_z0.2.2.1) (x_z0.2.2.2.1) (x_z0.2.2.2.2) (nI (sBe s)) (nI (r.length + 1)) mo cn ce re ca inf et ex ey ep a_nodeOp a_nodeA a_nodeB a_nodeParts a_nodeSize a_slotSize a_slotParams a_openLists a_typeParent (sCe s) (sLo s) (sv') (sh') (sOu s) fr := by
    intro sv' sh' hs
    have := h sv' sh' hs
    refine xx_r (Q := fun y => vp_in _ _ ∧ _) 8 (by omega) (xx_r 9 (by omega) (nm_r (nI_pred r.length) ?_))
    rw [c8, c9]
    exact this
  unfold wpX_popFrame xU
  dsimp only
  refine x_top r.length ?_
  refine xx_r 10 (by omega) ?_
  rw [c10]
  rcases hb with hb | hb
  · subst hb
    refine br_t rfl (hk sv sh ?_)
    intro j hj
    have := h1 j hj
    have e : m_cur (sGl s) (8 + j) (((nd, ev, ph, rm), (gt, x0, x1, x2), (la, 0, bx, ty), dt, sc, sr, tg, pl) :: r) = m_cur (sGl s) (8 + j) r := if_neg (by show ¬ 0 = 8 + j; omega)
    rw [e] at this
    exact this
  · have hs := c11 (by omega)
    have key : ∀ h' : Int32, h' = (if fr (17 * r.length + 12) = 0 then 0 else 1) → xSp (upd sv (bv - 8) (fr (17 * r.length + 11))) (upd sh (bv - 8) h') (sGl s) r := by
      intro h' hh j hj
      by_cases e : j = bv - 8
      · rw [e, pk_us, pk_us, hh, show 8 + (bv - 8) = bv from by omega]
        cases hm : m_cur (sGl s) bv r with
        | none =>
          rw [hm] at hs
          have hs : fr (17 * r.length + 12) = 0 := hs
          show (if fr (17 * r.length + 12) = 0 then (0 : Int32) else 1) = 0
          rw [if_pos hs]
        | some x =>
          rw [hm] at hs
          have hs : fr (17 * r.length + 12) = 1 ∧ fr (17 * r.length + 11) = x := hs
          show (if fr (17 * r.length + 12) = 0 then (0 : Int32) else 1) = 1 ∧ _
          rw [hs.1, if_neg (by decide)]
          exact ⟨rfl, hs.2⟩
      · rw [pk_un e, pk_un e]
        have := h1 j hj
        have e2 : m_cur (sGl s) (8 + j) (((nd, ev, ph, rm), (gt, x0, x1, x2), (la, bv, bx, ty), dt, sc, sr, tg, pl) :: r) = m_cur (sGl s) (8 + j) r := if_neg (by show ¬ bv = 8 + j; omega)
        rw [e2] at this
        exact this
    refine br_f (xx_ne (b := 0) (by omega) (by omega) (by decide)) ⟨xx_i 11 (by omega), ?_⟩
    rw [x_sub8 hb.1, xx_c 11 11 (by omega), nI_clamp (by omega)]
    refine ⟨vp_in_nI (by omega) (by decide), nm_e ⟨xx_i 12 (by omega), ?_⟩⟩
    rw [xx_c 12 12 (by omega)]
    have b0 : vp_nar .boolean 0 = 0 := by decide
    have b1 : vp_nar .boolean 1 = 1 := by decide
    refine fb_if Iff.rfl (fun e => ?_) (fun e => ?_)
    · refine ⟨vp_in_nI (by omega) (by decide), ?_⟩
      rw [nI_clamp (by omega), b0]
      exact nm_e (hk _ _ (key 0 (by rw [if_pos e])))
    · refine ⟨vp_in_nI (by omega) (by decide), ?_⟩
      rw [nI_clamp (by omega), b1]
      exact nm_e (hk _ _ (key 1 (by rw [if_neg e])))
end
