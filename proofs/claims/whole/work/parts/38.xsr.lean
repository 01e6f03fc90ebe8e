/-! the class's side: searching for a clause -/
theorem x_isa5 {f_openCount f_typeCount f_printedCount f_depthLimit f_fuelLimit f_lastStatus f_lastValue f_lastError f_lastDatum f_lastPlace f_beatsUsed f_frameCount f_mode f_currentNode f_currentEnv f_result f_calls f_inForce f_exitTarget f_exitValue f_exitType f_exitPlace : Int32} {a_nodeOp a_nodeA a_nodeB a_nodeParts a_nodeSize a_slotSize a_slotParams a_openLists a_typeParent a_elements a_locals a_specialValue a_specialHas a_printed a_frames : Nat → Int32} {Q : Int32 → Prop} {pt : Nat → Nat} (hp : ∀ t, t < 16 → a_typeParent t = nI (pt t) ∧ (1 ≤ t → pt t < t)) (a : Nat) (ha2 : a ≤ 15) : ∀ (k t i n : Nat), i + k = 16 → t + i ≤ 15 → k < n → Q (if fo_ia pt k t a = true then 1 else 0) → wX_isA_5 Q (nI a) f_openCount f_typeCount f_printedCount f_depthLimit f_fuelLimit f_lastStatus f_lastValue f_lastError f_lastDatum f_lastPlace f_beatsUsed f_frameCount f_mode f_currentNode f_currentEnv f_result f_calls f_inForce f_exitTarget f_exitValue f_exitType f_exitPlace a_nodeOp a_nodeA a_nodeB a_nodeParts a_nodeSize a_slotSize a_slotParams a_openLists a_typeParent a_elements a_locals a_specialValue a_specialHas a_printed a_frames n (nI t) (nI i)
  | _, _, _, 0, _, _, hn, _ => by omega
  | 0, t, i, n + 1, hk, ht, hn, h => by omega
  | k + 1, t, i, n + 1, hk, ht, hn, h => by
    have e : fo_ia pt (k + 1) t a = if t = a then true else if t ≤ a then false else fo_ia pt k (pt t) a := rfl
    rw [e] at h
    rw [wX_isA_5]
    refine br_f (nI_ge (b := 16) (by omega) (by decide)) ?_
    refine fb_if (nI_leI (by omega) (by omega)) (fun z => ?_) (fun z => ?_)
    · refine fb_if (nI_eq (by omega) (by omega)) (fun y => ?_) (fun y => ?_)
      · rw [if_pos y, if_pos rfl] at h
        exact h
      · rw [if_neg y, if_pos z, if_neg (by decide)] at h
        exact h
    · rw [if_neg (show ¬ t = a by omega), if_neg z] at h
      obtain ⟨p1, p2⟩ := hp t (by omega)
      have p3 := p2 (by omega)
      refine xx_n (by omega) ?_
      rw [p1]
      exact nm_r (nI_1 i) (x_isa5 hp a ha2 k (pt t) (i + 1) n (by omega) (by omega) (by omega) h)
section
variable {g : mG} {V : Nat → Prop} {Z : Nat → Nat} {pa : Nat → Option Nat} {T : Nat} {f_openCount f_typeCount : Int32} {a_nodeOp a_nodeA a_nodeB a_nodeParts a_nodeSize a_slotSize a_slotParams a_openLists a_typeParent : Nat → Int32} {s : St} {n : Nat} {ca inf mo cn ce re et ex ey ep v : Int32} {sv sh fr : Nat → Int32} {l r : List Fr} {f : Fr} {P : SX → Prop} {post : Int32 → SX → Prop} {N i p q : Nat}
theorem x_isa {f_printedCount f_depthLimit f_fuelLimit f_lastStatus f_lastValue f_lastError f_lastDatum f_lastPlace f_beatsUsed f_frameCount f_mode f_currentNode f_currentEnv f_result f_calls f_inForce f_exitTarget f_exitValue f_exitType f_exitPlace : Int32} {a_elements a_locals a_specialValue a_specialHas a_printed a_frames : Nat → Int32} (X : xG g V Z f_openCount f_typeCount a_nodeOp a_nodeA a_nodeB a_nodeParts a_nodeSize a_slotSize a_slotParams a_openLists a_typeParent) {Q : Int32 → Prop} (t a : Nat) (ht : t ≤ 15) (ha : a ≤ 15) (h : Q (if gI g t a = true then 1 else 0)) : wpX_isA Q (f_openCount, f_typeCount, f_printedCount, f_depthLimit, f_fuelLimit, f_lastStatus, f_lastValue, f_lastError, f_lastDatum, f_lastPlace, f_beatsUsed, f_frameCount, f_mode, f_currentNode, f_currentEnv, f_result, f_calls, f_inForce, f_exitTarget, f_exitValue, f_exitType, f_exitPlace, a_nodeOp, a_nodeA, a_nodeB, a_nodeParts, a_nodeSize, a_slotSize, a_slotParams, a_openLists, a_typeParent, a_elements, a_locals, a_specialValue, a_specialHas, a_printed, a_frames) (nI t) (nI a) := by
  obtain ⟨_, _, pt, h1, h2⟩ := X
  rw [h2 t a ht] at h
  exact ⟨17, x_isa5 h1 a ha 16 t 0 17 (by omega) (by omega) (by omega) h⟩
theorem w_chl : ∀ {l : List Fr} {w : Nat}, w_l g V Z pa w l → (m_ch g l).length ≤ l.length
  | [], _, _ => Nat.le_refl _
  | f :: r, w, W => by
    have ih := w_chl W.2
    show (if fr_ph f = 7 then fr_sc f else if fr_ph f = 1 ∧ (gO g (fr_nd f) = 16 ∨ gO g (fr_nd f) = 17) then (r.length, fr_nd f, fr_ev f) :: m_ch g r else m_ch g r).length ≤ r.length + 1
    split
    · rename_i e7
      obtain ⟨q0, r0, e0, p0, s0⟩ := W.1.2.2.2.2.2.1 e7
      subst e0
      have sg := (W.2.1.2.2.2.2.1 p0).1
      have := sg.length_le
      rw [s0] at this
      have i2 := w_chl W.2.2
      show (fr_sc f).length ≤ r0.length + 1 + 1
      omega
    · split
      · show (m_ch g r).length + 1 ≤ r.length + 1
        omega
      · omega
theorem x_sf {f_printedCount f_depthLimit f_fuelLimit f_lastStatus f_lastValue f_lastError f_lastDatum f_lastPlace f_beatsUsed f_frameCount f_mode f_currentNode f_currentEnv f_result f_calls f_inForce f_exitTarget f_exitValue f_exitType f_exitPlace : Int32} {a_elements a_locals a_specialValue a_specialHas a_printed a_frames : Nat → Int32} {gl : Nat → Option Int32} (G : g_w g V Z pa T) (X : xG g V Z f_openCount f_typeCount a_nodeOp a_nodeA a_nodeB a_nodeParts a_nodeSize a_slotSize a_slotParams a_openLists a_typeParent) (W : w_l g V Z pa 1 r) (Y : xL g a_frames gl r) (b t : Nat) (hb : b + 17 ≤ 11900) (ht : t ≤ 15) (h13 : a_frames (b + 13) = nI t) (hl : r.length < 700) : ∀ (sc : List (Nat × Nat × Nat)), sc <:+ m_ch g r → ∀ (c n : Nat), c + sc.length < 700 → sc.length < n → (m_sf g t sc = none → wpX_endSearch P (f_openCount, f_typeCount, f_printedCount, f_depthLimit, f_fuelLimit, f_lastStatus, f_lastValue, f_lastError, f_lastDatum, f_lastPlace, f_beatsUsed, f_frameCount, f_mode, f_currentNode, f_currentEnv, f_result, f_calls, f_inForce, f_exitTarget, f_exitValue, f_exitType, f_exitPlace, a_nodeOp, a_nodeA, a_nodeB, a_nodeParts, a_nodeSize, a_slotSize, a_slotParams, a_openLists, a_typeParent, a_elements, a_locals, a_specialValue, a_specialHas, a_printed, a_frames) (nI b)) → (∀ h n e t', m_sf g t sc = some ((h, n, e), t') → wpX_takeClause P (f_openCount, f_typeCount, f_printedCount, f_depthLimit, f_fuelLimit, f_lastStatus, f_lastValue, f_lastError, f_lastDatum, f_lastPlace, f_beatsUsed, f_frameCount, f_mode, f_currentNode, f_currentEnv, f_result, f_calls, f_inForce, f_exitTarget, f_exitValue, f_exitType, f_exitPlace, a_nodeOp, a_nodeA, a_nodeB, a_nodeParts, a_nodeSize, a_slotSize, a_slotParams, a_openLists, a_typeParent, a_elements, a_locals, a_specialValue, a_specialHas, a_printed, a_frames) (nI b) (nI h)) → wX_searchClause_17 P (nI b) f_openCount f_typeCount f_printedCount f_depthLimit f_fuelLimit f_lastStatus f_lastValue f_lastError f_lastDatum f_lastPlace f_beatsUsed f_frameCount f_mode f_currentNode f_currentEnv f_result f_calls f_inForce f_exitTarget f_exitValue f_exitType f_exitPlace a_nodeOp a_nodeA a_nodeB a_nodeParts a_nodeSize a_slotSize a_slotParams a_openLists a_typeParent a_elements a_locals a_specialValue a_specialHas a_printed a_frames n (x_ix sc) (nI c)
  | _, _, _, 0, _, hn, _, _ => by omega
  | [], _, c, n + 1, hc, hn, h1, h2 => by
    rw [wX_searchClause_17]
    refine br_c (fun _ => h1 rfl) (fun _ => br_t rfl (h1 rfl))
  | (h, nd, e) :: sc, hs, c, n + 1, hc, hn, h1, h2 => by
    have hc : c + (sc.length + 1) < 700 := hc
    have hn : sc.length + 1 < n + 1 := hn
    obtain ⟨q, r', q1, q2, q3, q4, q5, q6, q7⟩ := w_link W hs
    obtain ⟨Q, QW⟩ := w_suf W q1
    have hxq := xL_at Y q1
    have hlen := q1.length_le
    have hlen : r'.length + 1 ≤ r.length := hlen
    have hV : V nd := by rw [← q3]; exact Q.1
    obtain ⟨n1, n2, n3, n4, n5, n6, n7, n8, n9, n10, n11⟩ := G.1 nd hV
    have hA := (n9 (by omega)).2.2.2.1 (by omega)
    have hT : T ≤ 15 := G.2.2.2.2.2.2.2.1
    have k0 : a_frames (17 * h + 0) = nI nd := by
      rw [← q2, ← q3]
      obtain ⟨⟨nd, ev, ph, rm⟩, ⟨gt, x0, x1, x2⟩, ⟨la, bv, bx, ty⟩, dt, sc, sr, tg, pl⟩ := q
      exact hxq.1
    have k8 : a_frames (17 * h + 8) = x_ix sc := by
      rw [← q2, ← q7]
      obtain ⟨⟨nd, ev, ph, rm⟩, ⟨gt, x0, x1, x2⟩, ⟨la, bv, bx, ty⟩, dt, sc, sr, tg, pl⟩ := q
      exact hxq.2.2.2.2.2.2.2.2.1
    have hm : m_sf g t ((h, nd, e) :: sc) = if gI g t (gA g nd) = true then some ((h, nd, e), sc) else m_sf g t sc := rfl
    rw [hm] at h1 h2
    rw [wX_searchClause_17]
    show _ ∧ _
    refine br_f (nI_ge (b := 700) (by omega) (by decide)) (br_f ?_ ?_)
    · intro z
      have : (0 : Int32) ≤ -1 := by
        rw [← z]; exact nI_pos' (by omega)
      exact absurd this (by decide)
    · refine nm_r (x_mul17 h) ?_
      refine xx_r 0 (by omega) ?_
      rw [k0]
      refine ⟨xx_i 13 (by omega), vp_in_nI n4 (by decide), ?_⟩
      rw [xx_c 13 13 (by omega), h13, nI_clamp (by omega), (X.1 nd hV).2.2.2.2.1 (Or.inr (by unfold fo_ma; omega))]
      refine x_isa X t (gA g nd) ht (by omega) ?_
      by_cases z : gI g t (gA g nd) = true
      · rw [if_pos z] at h2 ⊢
        exact br_f (by decide) (h2 h nd e sc rfl)
      · rw [if_neg z] at h1 h2 ⊢
        refine br_t rfl ?_
        refine xx_r 8 (by omega) ?_
        rw [k8]
        refine nm_r (nI_1 c) ?_
        exact x_sf G X W Y b t hb ht h13 hl sc ((List.suffix_cons _ _).trans hs) (c + 1) n (by omega) (by omega) h1 h2
theorem x_encl {f_openCount f_typeCount f_printedCount f_depthLimit f_fuelLimit f_lastStatus f_lastValue f_lastError f_lastDatum f_lastPlace f_beatsUsed f_frameCount f_mode f_currentNode f_currentEnv f_result f_calls f_inForce f_exitTarget f_exitValue f_exitType f_exitPlace : Int32} {a_nodeOp a_nodeA a_nodeB a_nodeParts a_nodeSize a_slotSize a_slotParams a_openLists a_typeParent a_elements a_locals a_specialValue a_specialHas a_printed a_frames : Nat → Int32} {P : SX → Prop} {ph v : Int32} (b n e w : Nat) (hb : b + 17 ≤ 11900) (hn : n < 392) (he : e ≤ 5) (hw : w < 12) (h0 : a_frames (b + 0) = nI n) (h1 : a_frames (b + 1) = nI e) (hB : a_nodeB n = nI w) (hsh : 8 ≤ w → a_specialHas (w - 8) = 0 ∨ a_specialHas (w - 8) = 1) (hlo : w < 8 → P (f_openCount, f_typeCount, f_printedCount, f_depthLimit, f_fuelLimit, f_lastStatus, f_lastValue, f_lastError, f_lastDatum, f_lastPlace, f_beatsUsed, f_frameCount, 1, f_currentNode, f_currentEnv, f_result, f_calls, f_inForce, f_exitTarget, f_exitValue, f_exitType, f_exitPlace, a_nodeOp, a_nodeA, a_nodeB, a_nodeParts, a_nodeSize, a_slotSize, a_slotParams, a_openLists, a_typeParent, a_elements, upd a_locals (8 * e + w) v, a_specialValue, a_specialHas, a_printed, upd (upd (upd a_frames (b + 2) ph) (b + 3) (nI (n + 1))) (b + 4) 1)) (hbi : 8 ≤ w → P (f_openCount, f_typeCount, f_printedCount, f_depthLimit, f_fuelLimit, f_lastStatus, f_lastValue, f_lastError, f_lastDatum, f_lastPlace, f_beatsUsed, f_frameCount, 1, f_currentNode, f_currentEnv, f_result, f_calls, f_inForce, f_exitTarget, f_exitValue, f_exitType, f_exitPlace, a_nodeOp, a_nodeA, a_nodeB, a_nodeParts, a_nodeSize, a_slotSize, a_slotParams, a_openLists, a_typeParent, a_elements, a_locals, upd a_specialValue (w - 8) v, upd a_specialHas (w - 8) 1, a_printed, upd (upd (upd (upd (upd (upd a_frames (b + 10) (nI w)) (b + 11) (a_specialValue (w - 8))) (b + 12) (a_specialHas (w - 8))) (b + 2) ph) (b + 3) (nI (n + 1))) (b + 4) 1)) : wpX_enterClause P (f_openCount, f_typeCount, f_printedCount, f_depthLimit, f_fuelLimit, f_lastStatus, f_lastValue, f_lastError, f_lastDatum, f_lastPlace, f_beatsUsed, f_frameCount, f_mode, f_currentNode, f_currentEnv, f_result, f_calls, f_inForce, f_exitTarget, f_exitValue, f_exitType, f_exitPlace, a_nodeOp, a_nodeA, a_nodeB, a_nodeParts, a_nodeSize, a_slotSize, a_slotParams, a_openLists, a_typeParent, a_elements, a_locals, a_specialValue, a_specialHas, a_printed, a_frames) (nI b) ph v := by
  refine xx_r 0 (by omega) ?_
  rw [h0]
  refine xx_n hn ?_
  rw [hB]
  by_cases w8 : w < 8
  · refine br_t (nI_lt (b := 8) w8 (by decide)) (br_t rfl ?_)
    refine br_f (nI_ge (b := 8) w8 (by decide)) ⟨xx_i 1 (by omega), ?_⟩
    rw [xx_c 1 1 (by omega), h1]
    have ei : nI e * 8 + nI w = nI (8 * e + w) := by
      rw [show (8 : Int32) = nI 8 from rfl, pk_mul, nI_add, Nat.mul_comm]
    rw [ei]
    refine ⟨vp_in_nI (by omega) (by decide), ?_⟩
    rw [nI_clamp (by omega)]
    refine nm_e ?_
    refine xx_w 2 (by omega) ?_
    rw [nI_1]
    refine xx_w 3 (by omega) ?_
    exact xx_w 4 (by omega) (hlo w8)
  · refine br_f (nI_nlt (b := 8) (by omega) (by omega)) (br_f (nI_ge (b := 12) hw (by decide)) (br_f (by decide) ?_))
    refine x_bind b w hb (by omega) hw (hsh (by omega)) ?_
    refine xx_w 2 (by omega) ?_
    rw [nI_1]
    refine xx_w 3 (by omega) ?_
    exact xx_w 4 (by omega) (hbi (by omega))
theorem x_clR (G : g_w g V Z pa T) (X : xG g V Z f_openCount f_typeCount a_nodeOp a_nodeA a_nodeB a_nodeParts a_nodeSize a_slotSize a_slotParams a_openLists a_typeParent) {nd ev ph gt ty sr : Nat} {x0 x1 x2 la dt pl : Int32} {sc : List (Nat × Nat × Nat)} {tg : Option Nat} {cl : Nat} (hph : ph = 5 ∨ ph = 7) (hV : V nd) (he : ev ≤ 5) (hO1 : 16 ≤ gO g nd) (hO2 : gO g nd ≤ 18) (hcl : cl = nd + 1) (hl : r.length < 700) (k0 : fr (17 * r.length + 0) = nI nd) (k1 : fr (17 * r.length + 1) = nI ev) (k8 : fr (17 * r.length + 8) = x_ix (m_ch g r)) (k9 : fr (17 * r.length + 9) = nI (m_fc r)) (k10 : fr (17 * r.length + 10) = 0) (hL : xL g fr (sGl s) r) (h1 : xSp sv sh (sGl s) r) (h : ∀ sv' sh' fr', xSp sv' sh' (sGl s) (((nd, ev, ph, [cl]), (gt, x0, x1, x2), (la, m_cv g nd, v, ty), dt, sc, sr, tg, pl) :: r) → xL g fr' (sGl s) (((nd, ev, ph, [cl]), (gt, x0, x1, x2), (la, m_cv g nd, v, ty), dt, sc, sr, tg, pl) :: r) → P (xU g f_openCount f_typeCount a_nodeOp a_nodeA a_nodeB a_nodeParts a_nodeSize a_slotSize a_slotParams a_openLists a_typeParent x_z0 (m_cs g nd ev v s) (r.length + 1) ca inf 1 cn ce re et ex ey ep sv' sh' fr')) : wpX_enterClause P (xU g f_openCount f_typeCount a_nodeOp a_nodeA a_nodeB a_nodeParts a_nodeSize a_slotSize a_slotParams a_openLists a_typeParent x_z0 s (r.length + 1) ca inf mo cn ce re et ex ey ep sv sh fr) (nI (17 * r.length)) (nI ph) v := by
  obtain ⟨n1, n2, n3, n4, n5, n6, n7, n8, n9, n10, n11⟩ := G.1 nd hV
  have hw := n10 hO1 hO2
  have hB := (X.1 nd hV).2.2.2.2.2.1 hO1 hO2
  have hbb : 17 * r.length + 17 ≤ 11900 := by omega
  have e2 : nI (if ph = 8 then 4 else ph) = nI ph := by rw [if_neg (by omega)]
  have np1 : ¬ (ph = 0 ∨ ph = 2 ∨ (ph = 1 ∧ gO g nd = 13)) := by omega
  have hsp : 8 ≤ gB g nd → x_sp (sv (gB g nd - 8)) (sh (gB g nd - 8)) (m_cur (sGl s) (gB g nd) r) := by
    intro z
    have := h1 (gB g nd - 8) (by omega)
    rw [show 8 + (gB g nd - 8) = gB g nd from by omega] at this
    exact this
  refine x_encl (17 * r.length) nd ev (gB g nd) hbb n4 he hw k0 k1 hB (fun z => x_sp01 (hsp z)) (fun z => ?_) (fun z => ?_)
  · have ecv : m_cv g nd = 0 := if_pos z
    have ecs : m_cs g nd ev v s = s_lo s (upd (sLo s) (8 * ev + gB g nd) v) := if_pos z
    rw [ecv, ecs] at h
    refine h sv sh (upd (upd (upd fr (17 * r.length + 2) (nI ph)) (17 * r.length + 3) (nI (nd + 1))) (17 * r.length + 4) 1) (xSp_c rfl h1) ⟨⟨?_, ?_, ?_, ?_, ?_, ?_, ?_, ?_, ?_, ?_, ?_, ?_, ?_, ?_⟩, xL_keep hL ?_⟩
    · simp (disch := decide) only [up_n, up_s]; exact k0
    · simp (disch := decide) only [up_n, up_s]; exact k1
    · simp (disch := decide) only [up_n, up_s]; exact e2.symm
    · intro c cs y
      injection y with y1 y2
      simp (disch := decide) only [up_n, up_s]
      rw [← y1, hcl]
    · simp (disch := decide) only [up_n, up_s]; rfl
    · intro y; exact absurd y np1
    · intro y; omega
    · intro y; omega
    · simp (disch := decide) only [up_n, up_s]; exact k8
    · simp (disch := decide) only [up_n, up_s]; exact k9
    · simp (disch := decide) only [up_n, up_s]; exact k10
    · intro y; exact absurd rfl y
    · intro y; omega
    · intro y; omega
    · intro j hj
      rw [pk_un (by omega), pk_un (by omega), pk_un (by omega)]
  · have ecv : m_cv g nd = gB g nd := if_neg (by omega)
    have ecs : m_cs g nd ev v s = s := if_neg (by omega)
    rw [ecv, ecs] at h
    refine h _ _ (upd (upd (upd (upd (upd (upd fr (17 * r.length + 10) (nI (gB g nd))) (17 * r.length + 11) (sv (gB g nd - 8))) (17 * r.length + 12) (sh (gB g nd - 8))) (17 * r.length + 2) (nI ph)) (17 * r.length + 3) (nI (nd + 1))) (17 * r.length + 4) 1) (xSp_b z rfl rfl h1) ⟨⟨?_, ?_, ?_, ?_, ?_, ?_, ?_, ?_, ?_, ?_, ?_, ?_, ?_, ?_⟩, xL_keep hL ?_⟩
    · simp (disch := decide) only [up_n, up_s]; exact k0
    · simp (disch := decide) only [up_n, up_s]; exact k1
    · simp (disch := decide) only [up_n, up_s]; exact e2.symm
    · intro c cs y
      injection y with y1 y2
      simp (disch := decide) only [up_n, up_s]
      rw [← y1, hcl]
    · simp (disch := decide) only [up_n, up_s]; rfl
    · intro y; exact absurd y np1
    · intro y; omega
    · intro y; omega
    · simp (disch := decide) only [up_n, up_s]; exact k8
    · simp (disch := decide) only [up_n, up_s]; exact k9
    · simp (disch := decide) only [up_n, up_s]
    · intro _; simp (disch := decide) only [up_n, up_s]; exact hsp z
    · intro y; omega
    · intro y; omega
    · intro j hj
      rw [pk_un (by omega), pk_un (by omega), pk_un (by omega), pk_un (by omega), pk_un (by omega), pk_un (by omega)]
theorem m_cs_gl {n e : Nat} {v : Int32} {s : St} : sGl (m_cs g n e v s) = sGl s ∧ sBe (m_cs g n e v s) = sBe s := by
  unfold m_cs
  split
  · exact ⟨rfl, rfl⟩
  · exact ⟨rfl, rfl⟩
theorem x_plc {Q : Int32 → Prop} {n : Nat} (hn : n < 392) (h : Q (m_pla n)) : wpX_placeOf Q (nI n) := by
  refine ⟨by decide, ?_⟩
  have e1 : nI n / 56 = nI (n / 56) := pk_div (by omega) (by decide) (by decide)
  have e2 : nI n - nI (n / 56) * 56 = nI (n % 56) := by
    rw [← e1]; exact pk_rem (by omega) (by decide) (by decide)
  rw [e1, e2]
  refine nm_e ⟨by decide, nm_e ?_⟩
  unfold m_pla at h
  refine fb_if (nI_eq (b := 6) (by omega) (by decide)) (fun z => ?_) (fun z => ?_)
  · rw [if_pos (by omega)] at h
    rw [show n % 56 = n - 336 from by omega]
    exact h
  · rw [if_neg (by omega)] at h
    rw [show (1 : Int32) = nI 1 from rfl, nI_add, show (100 : Int32) = nI 100 from rfl, pk_mul, nI_add]
    exact h
end
