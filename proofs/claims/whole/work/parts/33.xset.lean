/-! the class's side: special variables, searches in the stack, locals of a call -/
theorem m_cur_set {gl : Nat → Option Int32} {v w : Nat} {x : Int32} : ∀ {r r' : List Fr}, m_set v x r = some r' → (w ≠ v → m_cur gl w r' = m_cur gl w r) ∧ m_cur gl v r' = some x
  | [], r', h => by cases h
  | f :: r, r', h => by
    obtain ⟨⟨nd, ev, ph, rm⟩, ⟨gt, x0, x1, x2⟩, ⟨la, bv, bx, ty⟩, dt, sc, sr, tg, pl⟩ := f
    have h : (if bv = v then some (((nd, ev, ph, rm), (gt, x0, x1, x2), (la, bv, x, ty), dt, sc, sr, tg, pl) :: r) else match m_set v x r with
      | some r' => some (((nd, ev, ph, rm), (gt, x0, x1, x2), (la, bv, bx, ty), dt, sc, sr, tg, pl) :: r')
      | none => none) = some r' := h
    by_cases e : bv = v
    · rw [if_pos e] at h
      cases h
      subst e
      refine ⟨fun hw => ?_, if_pos rfl⟩
      exact (if_neg (by show ¬ bv = w; omega)).trans (if_neg (by show ¬ bv = w; omega)).symm
    · rw [if_neg e] at h
      cases hm : m_set v x r with
      | none => rw [hm] at h; cases h
      | some r1 =>
        rw [hm] at h
        cases h
        obtain ⟨a1, a2⟩ := m_cur_set (gl := gl) (w := w) hm
        refine ⟨fun hw => ?_, ?_⟩
        · show (if bv = w then some bx else m_cur gl w r1) = (if bv = w then some bx else m_cur gl w r)
          rw [a1 hw]
        · exact (if_neg e).trans a2
theorem m_cur_glob {gl gl' : Nat → Option Int32} {v w : Nat} (hg : ∀ w, w ≠ v → gl' w = gl w) (hw : w ≠ v) : ∀ (r : List Fr), m_cur gl' w r = m_cur gl w r
  | [] => hg w hw
  | f :: r => by
    show (if fr_bv f = w then some (fr_bx f) else m_cur gl' w r) = (if fr_bv f = w then some (fr_bx f) else m_cur gl w r)
    rw [m_cur_glob hg hw r]
theorem m_set_none {gl : Nat → Option Int32} {v : Nat} {x : Int32} : ∀ {r : List Fr}, m_set v x r = none → m_cur gl v r = gl v ∧ ∀ q, q ∈ r → fr_bv q ≠ v
  | [], _ => ⟨rfl, fun q h => by cases h⟩
  | f :: r, h => by
    obtain ⟨⟨nd, ev, ph, rm⟩, ⟨gt, x0, x1, x2⟩, ⟨la, bv, bx, ty⟩, dt, sc, sr, tg, pl⟩ := f
    have h : (if bv = v then some (((nd, ev, ph, rm), (gt, x0, x1, x2), (la, bv, x, ty), dt, sc, sr, tg, pl) :: r) else match m_set v x r with
      | some r' => some (((nd, ev, ph, rm), (gt, x0, x1, x2), (la, bv, bx, ty), dt, sc, sr, tg, pl) :: r')
      | none => none) = none := h
    by_cases e : bv = v
    · rw [if_pos e] at h; cases h
    · rw [if_neg e] at h
      cases hm : m_set v x r with
      | some r1 => rw [hm] at h; cases h
      | none =>
        obtain ⟨a1, a2⟩ := m_set_none (gl := gl) hm
        refine ⟨(if_neg e).trans a1, fun q hq => ?_⟩
        rcases List.mem_cons.mp hq with z | z
        · rw [z]; exact e
        · exact a2 q z
theorem xF_list {g : mG} {fr : Nat → Int32} {gl gl' : Nat → Option Int32} {b : Nat} {f : Fr} {r r' : List Fr} (h : xF g fr gl b f r) (h1 : m_ch g r' = m_ch g r) (h2 : m_fc r' = m_fc r) (h3 : fr_bv f ≠ 0 → m_cur gl' (fr_bv f) r' = m_cur gl (fr_bv f) r) : xF g fr gl' b f r' := by
  obtain ⟨⟨nd, ev, ph, rm⟩, ⟨gt, x0, x1, x2⟩, ⟨la, bv, bx, ty⟩, dt, sc, sr, tg, pl⟩ := f
  obtain ⟨c0, c1, c2, c3, c4, c5, c6, c7, c8, c9, c10, c11, c12, c13⟩ := h
  have h3 : bv ≠ 0 → m_cur gl' bv r' = m_cur gl bv r := h3
  exact ⟨c0, c1, c2, c3, c4, c5, c6, c7, by rw [h1]; exact c8, by rw [h2]; exact c9, c10, fun z => by rw [h3 z]; exact c11 z, c12, c13⟩
theorem xL_set {g : mG} {fr : Nat → Int32} {gl : Nat → Option Int32} {v : Nat} {x : Int32} : ∀ {r r' : List Fr}, m_set v x r = some r' → xL g fr gl r → xL g fr gl r'
  | [], r', h, _ => by cases h
  | f :: r, r', h, X => by
    have sh := m_set_sh h
    obtain ⟨⟨nd, ev, ph, rm⟩, ⟨gt, x0, x1, x2⟩, ⟨la, bv, bx, ty⟩, dt, sc, sr, tg, pl⟩ := f
    have h : (if bv = v then some (((nd, ev, ph, rm), (gt, x0, x1, x2), (la, bv, x, ty), dt, sc, sr, tg, pl) :: r) else match m_set v x r with
      | some r' => some (((nd, ev, ph, rm), (gt, x0, x1, x2), (la, bv, bx, ty), dt, sc, sr, tg, pl) :: r')
      | none => none) = some r' := h
    by_cases e : bv = v
    · rw [if_pos e] at h
      cases h
      exact ⟨X.1, X.2⟩
    · rw [if_neg e] at h
      cases hm : m_set v x r with
      | none => rw [hm] at h; cases h
      | some r1 =>
        rw [hm] at h
        cases h
        have sh := m_set_sh hm
        obtain ⟨a1, a2, _, _⟩ := m_sh_fun (g := g) (Z := fun _ => 0) sh
        refine ⟨?_, xL_set hm X.2⟩
        rw [← m_sh_len sh]
        exact xF_list X.1 a1.symm a2.symm (fun _ => (m_cur_set hm).1 e)
theorem xL_glob {g : mG} {fr : Nat → Int32} {gl gl' : Nat → Option Int32} {v : Nat} (hg : ∀ w, w ≠ v → gl' w = gl w) : ∀ {r : List Fr}, (∀ q, q ∈ r → fr_bv q ≠ v) → xL g fr gl r → xL g fr gl' r
  | [], _, _ => trivial
  | f :: r, hq, X => ⟨xF_list X.1 rfl rfl (fun _ => m_cur_glob hg (hq f (List.mem_cons_self ..)) r), xL_glob hg (fun q h => hq q (List.mem_cons_of_mem _ h)) X.2⟩
theorem fo_dec {a : Nat} (h : a < 2 ^ 31) : nI a - 1 < 0 ↔ a = 0 := by
  cases a with
  | zero => exact ⟨fun _ => rfl, fun _ => by decide⟩
  | succ k =>
    rw [nI_pred]
    exact ⟨fun z => absurd z (nI_pos (by omega)), fun z => by omega⟩
theorem fo_m1 (a : Nat) : nI a + (-1) = nI a - 1 := by rw [Int32.sub_eq_add_neg]
theorem x_mul17 (a : Nat) : nI a * 17 = nI (17 * a) := by
  rw [show (17 : Int32) = nI 17 from rfl, pk_mul, Nat.mul_comm]
section
variable {g : mG} {V : Nat → Prop} {Z : Nat → Nat} {pa : Nat → Option Nat} {T : Nat} {f_openCount f_typeCount : Int32} {a_nodeOp a_nodeA a_nodeB a_nodeParts a_nodeSize a_slotSize a_slotParams a_openLists a_typeParent : Nat → Int32} {s : St}
theorem x_ret {f_openCount f_typeCount f_printedCount f_depthLimit f_fuelLimit f_lastStatus f_lastValue f_lastError f_lastDatum f_lastPlace f_beatsUsed f_frameCount f_mode f_currentNode f_currentEnv f_result f_calls f_inForce f_exitTarget f_exitValue f_exitType f_exitPlace : Int32} {a_nodeOp a_nodeA a_nodeB a_nodeParts a_nodeSize a_slotSize a_slotParams a_openLists a_typeParent a_elements a_locals a_specialValue a_specialHas a_printed a_frames : Nat → Int32} {P : SX → Prop} {gl : Nat → Option Int32} {v : Int32} (B e : Nat) (hB : B < 392) (he : e ≤ 5) : ∀ {l : List Fr} {w : Nat}, w_l g V Z pa w l → (∀ n, V n → n < 392) → xL g a_frames gl l → l.length ≤ 700 → P (f_openCount, f_typeCount, f_printedCount, f_depthLimit, f_fuelLimit, f_lastStatus, f_lastValue, f_lastError, f_lastDatum, f_lastPlace, f_beatsUsed, f_frameCount, 6, f_currentNode, f_currentEnv, f_result, f_calls, f_inForce, x_tg (m_find (fun q => decide (fr_nd q = B ∧ fr_ev q = e)) l), v, f_exitType, f_exitPlace, a_nodeOp, a_nodeA, a_nodeB, a_nodeParts, a_nodeSize, a_slotSize, a_slotParams, a_openLists, a_typeParent, a_elements, a_locals, a_specialValue, a_specialHas, a_printed, a_frames) → ∀ n, l.length + 1 < n → wX_returnFrom_21 P (nI B) v (nI e) f_openCount f_typeCount f_printedCount f_depthLimit f_fuelLimit f_lastStatus f_lastValue f_lastError f_lastDatum f_lastPlace f_beatsUsed f_frameCount f_mode f_currentNode f_currentEnv f_result f_calls f_inForce f_exitTarget f_exitValue f_exitType f_exitPlace a_nodeOp a_nodeA a_nodeB a_nodeParts a_nodeSize a_slotSize a_slotParams a_openLists a_typeParent a_elements a_locals a_specialValue a_specialHas a_printed a_frames n (-1) (nI l.length - 1)
  | _, _, _, _, _, _, _, 0, hn => by omega
  | [], _, _, _, _, _, h, n + 1, hn => by
    rw [wX_returnFrom_21]
    exact br_t (by decide) h
  | f :: r, w, W, hV, X, hl, h, n + 1, hn => by
    have hl : r.length + 1 ≤ 700 := hl
    have hn : r.length + 1 + 1 < n + 1 := hn
    obtain ⟨X1, X2⟩ := X
    obtain ⟨⟨nd, ev, ph, rm⟩, ⟨gt, x0, x1, x2⟩, ⟨la, bv, bx, ty⟩, dt, sc, sr, tg, pl⟩ := f
    obtain ⟨c0, c1, _⟩ := X1
    have hnd : nd < 392 := hV _ W.1.1
    have hev : ev ≤ 5 := W.1.2.1
    rw [wX_returnFrom_21]
    show _ ∧ _
    rw [show nI (List.length (((nd, ev, ph, rm), (gt, x0, x1, x2), (la, bv, bx, ty), dt, sc, sr, tg, pl) :: r)) - 1 = nI r.length from nI_pred r.length]
    refine br_f (nI_pos (by omega)) (br_t rfl (nm_r (x_mul17 _) ⟨xx_i 0 (by omega), ?_⟩))
    rw [xx_c 0 0 (by omega), c0]
    have hf : m_find (fun q => decide (fr_nd q = B ∧ fr_ev q = e)) (((nd, ev, ph, rm), (gt, x0, x1, x2), (la, bv, bx, ty), dt, sc, sr, tg, pl) :: r) = if decide (nd = B ∧ ev = e) = true then some r.length else m_find (fun q => decide (fr_nd q = B ∧ fr_ev q = e)) r := rfl
    rw [hf] at h
    refine fb_if (nI_eq (by omega) (by omega)) (fun e1 => ⟨xx_i 1 (by omega), ?_⟩) (fun e1 => ?_)
    · rw [xx_c 1 1 (by omega), c1]
      refine fb_if (nI_eq (by omega) (by omega)) (fun e2 => ?_) (fun e2 => ?_)
      · rw [if_pos (decide_eq_true ⟨e1, e2⟩)] at h
        refine nm_r (fo_m1 _) ?_
        obtain ⟨m, rfl⟩ : ∃ m, n = m + 1 := ⟨n - 1, by omega⟩
        rw [wX_returnFrom_21]
        refine br_c (fun _ => h) (fun _ => br_f ?_ h)
        intro z
        have : (0 : Int32) ≤ -1 := by rw [← z]; exact nI_pos' (by omega)
        exact absurd this (by decide)
      · rw [if_neg (by rw [decide_eq_true_iff]; omega)] at h
        exact nm_r (fo_m1 _) (x_ret B e hB he W.2 hV X2 (by omega) h n (by omega))
    · rw [if_neg (by rw [decide_eq_true_iff]; omega)] at h
      exact nm_r (fo_m1 _) (x_ret B e hB he W.2 hV X2 (by omega) h n (by omega))
theorem x_inb {f_openCount f_typeCount f_printedCount f_depthLimit f_fuelLimit f_lastStatus f_lastValue f_lastError f_lastDatum f_lastPlace f_beatsUsed f_frameCount f_mode f_currentNode f_currentEnv f_result f_calls f_inForce f_exitTarget f_exitValue f_exitType f_exitPlace : Int32} {a_nodeOp a_nodeA a_nodeB a_nodeParts a_nodeSize a_slotSize a_slotParams a_openLists a_typeParent a_elements a_locals a_specialValue a_specialHas a_printed a_frames : Nat → Int32} {P : Int32 → Prop} {gl : Nat → Option Int32} {nd ev ph gt bv ty sr : Nat} {rm : List Nat} {x0 x1 x2 la bx dt pl : Int32} {sc : List (Nat × Nat × Nat)} {tg : Option Nat} {w : Nat} {r : List Fr} (o : Nat) (ho : o < 100) (W : w_f g V Z pa w ((nd, ev, ph, rm), (gt, x0, x1, x2), (la, bv, bx, ty), dt, sc, sr, tg, pl) r) (G : g_w g V Z pa T) (X : xG g V Z f_openCount f_typeCount a_nodeOp a_nodeA a_nodeB a_nodeParts a_nodeSize a_slotSize a_slotParams a_openLists a_typeParent) (hF : xF g a_frames gl (17 * r.length) ((nd, ev, ph, rm), (gt, x0, x1, x2), (la, bv, bx, ty), dt, sc, sr, tg, pl) r) (hl : r.length < 700) (h1 : ph = 1 ∧ gO g nd = o → P 1) (h2 : ¬ (ph = 1 ∧ gO g nd = o) → P 0) : wpX_isInBody P (f_openCount, f_typeCount, f_printedCount, f_depthLimit, f_fuelLimit, f_lastStatus, f_lastValue, f_lastError, f_lastDatum, f_lastPlace, f_beatsUsed, f_frameCount, f_mode, f_currentNode, f_currentEnv, f_result, f_calls, f_inForce, f_exitTarget, f_exitValue, f_exitType, f_exitPlace, a_nodeOp, a_nodeA, a_nodeB, a_nodeParts, a_nodeSize, a_slotSize, a_slotParams, a_openLists, a_typeParent, a_elements, a_locals, a_specialValue, a_specialHas, a_printed, a_frames) (nI (17 * r.length)) (nI o) := by
  obtain ⟨c0, c1, c2, _⟩ := hF
  have hV : V nd := W.1
  have hnd := (G.1 nd hV).2.2.2.1
  have hO := (G.1 nd hV).1
  have hph : ph < 9 := by
    obtain ⟨_, _, h, _⟩ := W
    rcases h with h | h | h | h | h | h | h | h | h | h <;> omega
  refine ⟨xx_i 2 (by omega), ?_⟩
  rw [xx_c 2 2 (by omega), c2]
  have e1 : nI (if ph = 8 then 4 else ph) = 1 ↔ ph = 1 := by
    rw [show (1 : Int32) = nI 1 from rfl, nI_eq (by split <;> omega) (by decide)]
    split <;> omega
  refine fb_if e1 (fun z => ⟨xx_i 0 (by omega), ?_⟩) (fun z => h2 (fun y => z y.1))
  rw [xx_c 0 0 (by omega), c0]
  refine ⟨vp_in_nI hnd (by decide), ?_⟩
  rw [nI_clamp (by omega), (X.1 nd hV).1]
  exact fb_if (nI_eq (by omega) (by omega)) (fun y => h1 ⟨z, y⟩) (fun y => h2 (fun y' => y y'.2))
theorem x_thr {f_openCount f_typeCount f_printedCount f_depthLimit f_fuelLimit f_lastStatus f_lastValue f_lastError f_lastDatum f_lastPlace f_beatsUsed f_frameCount f_mode f_currentNode f_currentEnv f_result f_calls f_inForce f_exitTarget f_exitValue f_exitType f_exitPlace : Int32} {a_nodeOp a_nodeA a_nodeB a_nodeParts a_nodeSize a_slotSize a_slotParams a_openLists a_typeParent a_elements a_locals a_specialValue a_specialHas a_printed a_frames : Nat → Int32} {P : SX → Prop} {gl : Nat → Option Int32} {x1 tag v : Int32} (G : g_w g V Z pa T) (X : xG g V Z f_openCount f_typeCount a_nodeOp a_nodeA a_nodeB a_nodeParts a_nodeSize a_slotSize a_slotParams a_openLists a_typeParent) : ∀ {l : List Fr} {w : Nat}, w_l g V Z pa w l → xL g a_frames gl l → l.length ≤ 700 → (∀ h, m_find (fun q => decide (fr_ph q = 1 ∧ gO g (fr_nd q) = 13 ∧ fr_x0 q = tag)) l = some h → P (f_openCount, f_typeCount, f_printedCount, f_depthLimit, f_fuelLimit, f_lastStatus, f_lastValue, f_lastError, f_lastDatum, f_lastPlace, f_beatsUsed, f_frameCount, 6, f_currentNode, f_currentEnv, f_result, f_calls, f_inForce, nI h, v, f_exitType, f_exitPlace, a_nodeOp, a_nodeA, a_nodeB, a_nodeParts, a_nodeSize, a_slotSize, a_slotParams, a_openLists, a_typeParent, a_elements, a_locals, a_specialValue, a_specialHas, a_printed, a_frames)) → (m_find (fun q => decide (fr_ph q = 1 ∧ gO g (fr_nd q) = 13 ∧ fr_x0 q = tag)) l = none → wpX_raise P (f_openCount, f_typeCount, f_printedCount, f_depthLimit, f_fuelLimit, f_lastStatus, f_lastValue, f_lastError, f_lastDatum, f_lastPlace, f_beatsUsed, f_frameCount, f_mode, f_currentNode, f_currentEnv, f_result, f_calls, f_inForce, f_exitTarget, f_exitValue, f_exitType, f_exitPlace, a_nodeOp, a_nodeA, a_nodeB, a_nodeParts, a_nodeSize, a_slotSize, a_slotParams, a_openLists, a_typeParent, a_elements, a_locals, a_specialValue, a_specialHas, a_printed, a_frames) x1 5 tag) → ∀ n, l.length < n → wX_throwTo_8 P x1 tag v f_openCount f_typeCount f_printedCount f_depthLimit f_fuelLimit f_lastStatus f_lastValue f_lastError f_lastDatum f_lastPlace f_beatsUsed f_frameCount f_mode f_currentNode f_currentEnv f_result f_calls f_inForce f_exitTarget f_exitValue f_exitType f_exitPlace a_nodeOp a_nodeA a_nodeB a_nodeParts a_nodeSize a_slotSize a_slotParams a_openLists a_typeParent a_elements a_locals a_specialValue a_specialHas a_printed a_frames n (nI l.length - 1)
  | _, _, _, _, _, _, _, 0, hn => by omega
  | [], _, _, _, _, _, h2, n + 1, hn => by
    rw [wX_throwTo_8]
    exact br_t (by decide) (h2 rfl)
  | f :: r, w, W, Y, hl, h1, h2, n + 1, hn => by
    have hl : r.length + 1 ≤ 700 := hl
    have hn : r.length + 1 < n + 1 := hn
    obtain ⟨X1, X2⟩ := Y
    obtain ⟨⟨nd, ev, ph, rm⟩, ⟨gt, x0, x1, x2⟩, ⟨la, bv, bx, ty⟩, dt, sc, sr, tg, pl⟩ := f
    rw [wX_throwTo_8]
    show _ ∧ _
    rw [show nI (List.length (((nd, ev, ph, rm), (gt, x0, x1, x2), (la, bv, bx, ty), dt, sc, sr, tg, pl) :: r)) - 1 = nI r.length from nI_pred r.length]
    have hf : m_find (fun q => decide (fr_ph q = 1 ∧ gO g (fr_nd q) = 13 ∧ fr_x0 q = tag)) (((nd, ev, ph, rm), (gt, x0, x1, x2), (la, bv, bx, ty), dt, sc, sr, tg, pl) :: r) = if decide (ph = 1 ∧ gO g nd = 13 ∧ x0 = tag) = true then some r.length else m_find (fun q => decide (fr_ph q = 1 ∧ gO g (fr_nd q) = 13 ∧ fr_x0 q = tag)) r := rfl
    rw [hf] at h1 h2
    refine br_f (nI_pos (by omega)) (nm_r (x_mul17 _) (x_inb 13 (by decide) W.1 G X X1 (by omega) (fun e1 => br_f (by decide) ⟨xx_i 5 (by omega), ?_⟩) (fun e1 => br_t rfl (nm_r (fo_m1 _) ?_))))
    · have c5 := X1.2.2.2.2.2.1
      have hg : 0 < gt := by
        obtain ⟨_, _, h, _⟩ := W.1
        rcases h with h | h | h | h | h | h | h | h | h | h
        · omega
        · omega
        · omega
        · exact h.2.2.2.2 (by omega)
        all_goals omega
      rw [xx_c 5 5 (by omega), c5 (Or.inr (Or.inr e1)) hg]
      refine fb_if Iff.rfl (fun e2 => ?_) (fun e2 => ?_)
      · exact h1 _ (if_pos (decide_eq_true ⟨e1.1, e1.2, e2⟩))
      · have k : ¬ (decide (ph = 1 ∧ gO g nd = 13 ∧ x0 = tag) = true) := by rw [decide_eq_true_iff]; exact fun z => e2 z.2.2
        rw [if_neg k] at h1 h2
        exact nm_r (fo_m1 _) (x_thr G X W.2 X2 (by omega) h1 h2 n (by omega))
    · have k : ¬ (decide (ph = 1 ∧ gO g nd = 13 ∧ x0 = tag) = true) := by rw [decide_eq_true_iff]; exact fun z => e1 ⟨z.1, z.2.1⟩
      rw [if_neg k] at h1 h2
      exact x_thr G X W.2 X2 (by omega) h1 h2 n (by omega)
theorem x_inv {f_openCount f_typeCount f_printedCount f_depthLimit f_fuelLimit f_lastStatus f_lastValue f_lastError f_lastDatum f_lastPlace f_beatsUsed f_frameCount f_mode f_currentNode f_currentEnv f_result f_calls f_inForce f_exitTarget f_exitValue f_exitType f_exitPlace : Int32} {a_nodeOp a_nodeA a_nodeB a_nodeParts a_nodeSize a_slotSize a_slotParams a_openLists a_typeParent a_elements a_locals a_specialValue a_specialHas a_printed a_frames : Nat → Int32} {P : SX → Prop} {gl : Nat → Option Int32} {x1 v : Int32} (a : Nat) (ha : a < 8) (G : g_w g V Z pa T) (X : xG g V Z f_openCount f_typeCount a_nodeOp a_nodeA a_nodeB a_nodeParts a_nodeSize a_slotSize a_slotParams a_openLists a_typeParent) : ∀ {l : List Fr} {w : Nat}, w_l g V Z pa w l → xL g a_frames gl l → l.length ≤ 700 → (∀ h, m_find (fun q => decide (fr_ph q = 1 ∧ gO g (fr_nd q) = 18 ∧ gA g (fr_nd q) = a)) l = some h → P (f_openCount, f_typeCount, f_printedCount, f_depthLimit, f_fuelLimit, f_lastStatus, f_lastValue, f_lastError, f_lastDatum, f_lastPlace, f_beatsUsed, f_frameCount, 6, f_currentNode, f_currentEnv, f_result, f_calls, f_inForce, nI h, v, f_exitType, f_exitPlace, a_nodeOp, a_nodeA, a_nodeB, a_nodeParts, a_nodeSize, a_slotSize, a_slotParams, a_openLists, a_typeParent, a_elements, a_locals, a_specialValue, a_specialHas, a_printed, a_frames)) → (m_find (fun q => decide (fr_ph q = 1 ∧ gO g (fr_nd q) = 18 ∧ gA g (fr_nd q) = a)) l = none → wpX_raise P (f_openCount, f_typeCount, f_printedCount, f_depthLimit, f_fuelLimit, f_lastStatus, f_lastValue, f_lastError, f_lastDatum, f_lastPlace, f_beatsUsed, f_frameCount, f_mode, f_currentNode, f_currentEnv, f_result, f_calls, f_inForce, f_exitTarget, f_exitValue, f_exitType, f_exitPlace, a_nodeOp, a_nodeA, a_nodeB, a_nodeParts, a_nodeSize, a_slotSize, a_slotParams, a_openLists, a_typeParent, a_elements, a_locals, a_specialValue, a_specialHas, a_printed, a_frames) x1 5 v) → ∀ n, l.length < n → wX_invokeRestart_8 P x1 (nI a) v f_openCount f_typeCount f_printedCount f_depthLimit f_fuelLimit f_lastStatus f_lastValue f_lastError f_lastDatum f_lastPlace f_beatsUsed f_frameCount f_mode f_currentNode f_currentEnv f_result f_calls f_inForce f_exitTarget f_exitValue f_exitType f_exitPlace a_nodeOp a_nodeA a_nodeB a_nodeParts a_nodeSize a_slotSize a_slotParams a_openLists a_typeParent a_elements a_locals a_specialValue a_specialHas a_printed a_frames n (nI l.length - 1)
  | _, _, _, _, _, _, _, 0, hn => by omega
  | [], _, _, _, _, _, h2, n + 1, hn => by
    rw [wX_invokeRestart_8]
    exact br_t (by decide) (h2 rfl)
  | f :: r, w, W, Y, hl, h1, h2, n + 1, hn => by
    have hl : r.length + 1 ≤ 700 := hl
    have hn : r.length + 1 < n + 1 := hn
    obtain ⟨X1, X2⟩ := Y
    obtain ⟨⟨nd, ev, ph, rm⟩, ⟨gt, x0, x1, x2⟩, ⟨la, bv, bx, ty⟩, dt, sc, sr, tg, pl⟩ := f
    rw [wX_invokeRestart_8]
    show _ ∧ _
    rw [show nI (List.length (((nd, ev, ph, rm), (gt, x0, x1, x2), (la, bv, bx, ty), dt, sc, sr, tg, pl) :: r)) - 1 = nI r.length from nI_pred r.length]
    have hf : m_find (fun q => decide (fr_ph q = 1 ∧ gO g (fr_nd q) = 18 ∧ gA g (fr_nd q) = a)) (((nd, ev, ph, rm), (gt, x0, x1, x2), (la, bv, bx, ty), dt, sc, sr, tg, pl) :: r) = if decide (ph = 1 ∧ gO g nd = 18 ∧ gA g nd = a) = true then some r.length else m_find (fun q => decide (fr_ph q = 1 ∧ gO g (fr_nd q) = 18 ∧ gA g (fr_nd q) = a)) r := rfl
    rw [hf] at h1 h2
    refine br_f (nI_pos (by omega)) (nm_r (x_mul17 _) (x_inb 18 (by decide) W.1 G X X1 (by omega) (fun e1 => br_f (by decide) ⟨xx_i 0 (by omega), ?_⟩) (fun e1 => br_t rfl (nm_r (fo_m1 _) ?_))))
    · have hV : V nd := W.1.1
      have N := G.1 nd hV
      have hA : gA g nd < 8 := (N.2.2.2.2.2.2.2.2.1 (by omega)).2.2.1 (by omega)
      have hnd := N.2.2.2.1
      rw [xx_c 0 0 (by omega), X1.1]
      refine ⟨vp_in_nI hnd (by decide), ?_⟩
      rw [nI_clamp (by omega), (X.1 nd hV).2.2.2.2.1 (Or.inr (by unfold fo_ma; omega))]
      refine fb_if (nI_eq (by omega) (by omega)) (fun e2 => ?_) (fun e2 => ?_)
      · exact h1 _ (if_pos (decide_eq_true ⟨e1.1, e1.2, e2⟩))
      · have k : ¬ (decide (ph = 1 ∧ gO g nd = 18 ∧ gA g nd = a) = true) := by rw [decide_eq_true_iff]; exact fun z => e2 z.2.2
        rw [if_neg k] at h1 h2
        exact nm_r (fo_m1 _) (x_inv a ha G X W.2 X2 (by omega) h1 h2 n (by omega))
    · have k : ¬ (decide (ph = 1 ∧ gO g nd = 18 ∧ gA g nd = a) = true) := by rw [decide_eq_true_iff]; exact fun z => e1 ⟨z.1, z.2.1⟩
      rw [if_neg k] at h1 h2
      exact x_inv a ha G X W.2 X2 (by omega) h1 h2 n (by omega)
def x_lo (L : Nat → Int32) (e k : Nat) (x0 x1 x2 : Int32) (i : Nat) : Nat → Int32 := fun j => if 8 * e ≤ j ∧ j < 8 * e + i then (if j - 8 * e < k then (if j - 8 * e = 0 then x0 else if j - 8 * e = 1 then x1 else x2) else 0) else L j
theorem x_lo_0 (L : Nat → Int32) (e k : Nat) (x0 x1 x2 : Int32) : x_lo L e k x0 x1 x2 0 = L := by
  funext j
  exact if_neg (by omega)
theorem x_lo_s (L : Nat → Int32) (e k : Nat) (x0 x1 x2 : Int32) (i : Nat) (v : Int32) (hv : v = if i < k then (if i = 0 then x0 else if i = 1 then x1 else x2) else 0) : upd (x_lo L e k x0 x1 x2 i) (8 * e + i) v = x_lo L e k x0 x1 x2 (i + 1) := by
  funext j
  by_cases h : j = 8 * e + i
  · rw [h, pk_us, hv]
    unfold x_lo
    rw [if_pos (show 8 * e ≤ 8 * e + i ∧ 8 * e + i < 8 * e + (i + 1) by omega), show 8 * e + i - 8 * e = i from by omega]
  · rw [pk_un h]
    unfold x_lo
    by_cases h2 : 8 * e ≤ j ∧ j < 8 * e + i
    · rw [if_pos h2, if_pos (show 8 * e ≤ j ∧ j < 8 * e + (i + 1) by omega)]
    · rw [if_neg h2, if_neg (show ¬ (8 * e ≤ j ∧ j < 8 * e + (i + 1)) by omega)]
theorem x_locs {f_openCount f_typeCount f_printedCount f_depthLimit f_fuelLimit f_lastStatus f_lastValue f_lastError f_lastDatum f_lastPlace f_beatsUsed f_frameCount f_mode f_currentNode f_currentEnv f_result f_inForce f_exitTarget f_exitValue f_exitType f_exitPlace : Int32} {a_nodeOp a_nodeA a_nodeB a_nodeParts a_nodeSize a_slotSize a_slotParams a_openLists a_typeParent a_elements a_specialValue a_specialHas a_printed a_frames : Nat → Int32} {P : SX → Prop} {L : Nat → Int32} {x0 x1 x2 : Int32} (b f k e : Nat) (hb : b + 17 ≤ 11900) (hk : k ≤ 3) (he : e ≤ 5) (h0 : 0 < k → a_frames (b + 5) = x0) (h1 : 1 < k → a_frames (b + 6) = x1) (h2 : 2 < k → a_frames (b + 7) = x2) (h : P (f_openCount, f_typeCount, f_printedCount, f_depthLimit, f_fuelLimit, f_lastStatus, f_lastValue, f_lastError, f_lastDatum, f_lastPlace, f_beatsUsed, f_frameCount, 0, nI (56 * f), nI e, f_result, nI e, f_inForce, f_exitTarget, f_exitValue, f_exitType, f_exitPlace, a_nodeOp, a_nodeA, a_nodeB, a_nodeParts, a_nodeSize, a_slotSize, a_slotParams, a_openLists, a_typeParent, a_elements, x_lo L e k x0 x1 x2 8, a_specialValue, a_specialHas, a_printed, upd a_frames (b + 2) 6)) : ∀ (d i n : Nat), i + d = 8 → d < n → wX_enterFunction_13 P (nI b) (nI f) (nI k) f_openCount f_typeCount f_printedCount f_depthLimit f_fuelLimit f_lastStatus f_lastValue f_lastError f_lastDatum f_lastPlace f_beatsUsed f_frameCount f_mode f_currentNode f_currentEnv f_result (nI e) f_inForce f_exitTarget f_exitValue f_exitType f_exitPlace n (nI i) a_nodeOp a_nodeA a_nodeB a_nodeParts a_nodeSize a_slotSize a_slotParams a_openLists a_typeParent a_elements (x_lo L e k x0 x1 x2 i) a_specialValue a_specialHas a_printed a_frames
  | _, _, 0, _, hn => by omega
  | 0, i, n + 1, hi, hn => by
    have e8 : i = 8 := by omega
    subst e8
    rw [wX_enterFunction_13]
    refine br_t (by decide) (xx_w 2 (by omega) (nm_r ?_ h))
    rw [show (56 : Int32) = nI 56 from rfl, pk_mul, Nat.mul_comm]
  | d + 1, i, n + 1, hi, hn => by
    rw [wX_enterFunction_13]
    have ei : nI e * 8 + nI i = nI (8 * e + i) := by
      rw [show (8 : Int32) = nI 8 from rfl, pk_mul, nI_add, Nat.mul_comm]
    refine br_f (nI_ge (b := 8) (by omega) (by decide)) ?_
    refine fb_if (nI_leI (by omega) (by omega)) (fun z => ?_) (fun z => ?_)
    · rw [ei]
      refine ⟨vp_in_nI (by omega) (by decide), ?_⟩
      rw [nI_clamp (by omega)]
      refine nm_r (x_lo_s L e k x0 x1 x2 i 0 (by rw [if_neg (by omega)])) (nm_r (nI_1 i) ?_)
      exact x_locs b f k e hb hk he h0 h1 h2 h d (i + 1) n (by omega) (by omega)
    · have eb : nI b + 5 + nI i = nI (b + 5 + i) := by
        rw [show (5 : Int32) = nI 5 from rfl, nI_add, nI_add]
      rw [ei, eb]
      refine ⟨vp_in_nI (by omega) (by decide), vp_in_nI (by omega) (by decide), ?_⟩
      rw [nI_clamp (by omega), nI_clamp (by omega)]
      have hv : a_frames (b + 5 + i) = if i < k then (if i = 0 then x0 else if i = 1 then x1 else x2) else 0 := by
        rw [if_pos (by omega)]
        by_cases i0 : i = 0
        · subst i0
          rw [if_pos rfl]; exact h0 (by omega)
        · rw [if_neg i0]
          by_cases i1 : i = 1
          · subst i1
            rw [if_pos rfl]; exact h1 (by omega)
          · rw [if_neg i1]
            have i2 : i = 2 := by omega
            subst i2
            exact h2 (by omega)
      refine nm_r (x_lo_s L e k x0 x1 x2 i _ hv) (nm_r (nI_1 i) ?_)
      exact x_locs b f k e hb hk he h0 h1 h2 h d (i + 1) n (by omega) (by omega)
end
