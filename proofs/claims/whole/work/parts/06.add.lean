/-! adding nodes and closing lists -/
theorem fo_N_keep {xo xa xb xk yt yo ya yb yu yv xo' xa' xb' xk' yt' yo' ya' yb' yu' yv' : Nat → Int32} {P O A P' O' A' : Nat → Nat} {T b b' cnt cnt' i : Nat} (N : fo_N xo xa xb xk yt yo ya yb yu yv P O A T b cnt i) (h1 : xo' (b' + i) = xo (b + i)) (h2 : xa' (b' + i) = xa (b + i)) (h3 : xb' (b' + i) = xb (b + i)) (hk : xk' (b' + i) = nI (fo_kids P' b' cnt' i).length) (h5 : yt' (b' + i) = yt (b + i)) (h6 : yo' (b' + i) = yo (b + i)) (h7 : ya' (b' + i) = ya (b + i)) (h8 : yb' (b' + i) = yb (b + i)) (h9 : yu' (b' + i) = yu (b + i)) (h10 : yv' (b' + i) = yv (b + i)) (hg : ∀ j, j ≤ i → P' (b' + j) = P (b + j) ∧ O' (b' + j) = O (b + j) ∧ A' (b' + j) = A (b + j)) (hp : ∀ j, j ≤ i → P (b + j) ≤ j) : fo_N xo' xa' xb' xk' yt' yo' ya' yb' yu' yv' P' O' A' T b' cnt' i := by
  obtain ⟨n1, n2, n3, n4, n5, n6, n7, n8⟩ := N
  obtain ⟨g1, g2, g3⟩ := hg i (Nat.le_refl _)
  unfold fo_N
  rw [h1, h2, h3, h5, h6, h7, h8, h9, h10, g1, g2, g3]
  refine ⟨n1, n2, hk, n4, n5, n6, fun z => ?_, fun j hj => by
    have := hp i (Nat.le_refl _)
    rw [(hg j (by omega)).2.1]
    exact n8 j hj⟩
  obtain ⟨m1, m2, m3, m4, m5, m6⟩ := n7 z
  refine ⟨m1, m2, m3, m4, m5, fun w => ?_⟩
  obtain ⟨t, t1, t2, t3⟩ := m6 w
  refine ⟨t, t1, t2, ?_⟩
  rw [← t3]
  exact fo_ba_congr 14 (i + 1) (fun j hj => ⟨(hg j (by omega)).1, (hg j (by omega)).2.1, fun _ => (hg j (by omega)).2.2⟩) (fun j hj => hp j (by omega))
theorem fo_Slot_keep {xo xa xb xk xz yt yo ya yb yu yv xo' xa' xb' xk' xz' yt' yo' ya' yb' yu' yv' : Nat → Int32} {P Z O A P' Z' O' A' : Nat → Nat} {T b b' cnt : Nat} {os : List Nat} (S : fo_Slot xo xa xb xk xz yt yo ya yb yu yv P Z O A T b cnt os) (h : ∀ i, i < cnt → xo' (b' + i) = xo (b + i) ∧ xa' (b' + i) = xa (b + i) ∧ xb' (b' + i) = xb (b + i) ∧ xk' (b' + i) = xk (b + i) ∧ xz' (b' + i) = xz (b + i) ∧ yt' (b' + i) = yt (b + i) ∧ yo' (b' + i) = yo (b + i) ∧ ya' (b' + i) = ya (b + i) ∧ yb' (b' + i) = yb (b + i) ∧ yu' (b' + i) = yu (b + i) ∧ yv' (b' + i) = yv (b + i)) (hg : ∀ j, j < cnt → P' (b' + j) = P (b + j) ∧ Z' (b' + j) = Z (b + j) ∧ O' (b' + j) = O (b + j) ∧ A' (b' + j) = A (b + j)) : fo_Slot xo' xa' xb' xk' xz' yt' yo' ya' yb' yu' yv' P' Z' O' A' T b' cnt os := by
  obtain ⟨s1, s2, s3, s4⟩ := S
  refine ⟨s1, fo_tree_congr (fun i hi => (hg i hi).1) (fun i hi => (hg i hi).2.1) s2, fun i hi ho => ?_, fun i hi => ?_⟩
  · obtain ⟨_, _, _, _, e, _⟩ := h i hi
    rw [e, (hg i hi).2.1]
    exact s3 i hi ho
  · obtain ⟨e1, e2, e3, e4, _, e5, e6, e7, e8, e9, e10⟩ := h i hi
    have hkk : (fo_kids P' b' cnt i).length = (fo_kids P b cnt i).length := fo_kf_len (P := P) (P' := P') (b := b) (b' := b') cnt 0 (fun j _ hj => (hg j (by omega)).1)
    refine ⟨?_, fun hno hO => by rw [hkk, (hg i hi).2.2.1]; rw [(hg i hi).2.2.1] at hO; exact (s4 i hi).2 hno hO⟩
    refine fo_N_keep (s4 i hi).1 e1 e2 e3 ?_ e5 e6 e7 e8 e9 e10 (fun j hj => ⟨(hg j (by omega)).1, (hg j (by omega)).2.2⟩) (fun j hj => (s2.1 j (by omega)).1)
    rw [e4, (s4 i hi).1.2.2.1, hkk]
def fo_kp (a : Nat → Int32) : List Nat → Nat → Int32
  | [] => a
  | o :: _ => upd a (336 + o) (a (336 + o) + 1)
/-- one node more in the form: os' is os, or the new node ahead of it -/
theorem fo_Slot_add {xo xa xb xk xz yt yo ya yb yu yv yo' ya' yb' : Nat → Int32} {P Z O A : Nat → Nat} {T cnt o a : Nat} {os os' : List Nat} {wa wb wt wv : Int32} (S : fo_Slot xo xa xb xk xz yt yo ya yb yu yv P Z O A T 336 cnt os) (hS : fo_Os P os) (hOs : ∀ o, o ∈ os → O (336 + o) ≤ 26) (h0 : os = [] → cnt = 0) (hc : cnt < 56) (hos : os' = os ∨ os' = cnt :: os) (hlf : os' = os → 27 ≤ o)
    (hyo : ∀ j, j < cnt → yo' (336 + j) = yo (336 + j)) (hya : ∀ j, j < cnt → ya' (336 + j) = ya (336 + j)) (hyb : ∀ j, j < cnt → yb' (336 + j) = yb (336 + j)) (ho : o ≤ 28)
    (c27 : o = 27 → wt = 1 ∧ wv = wa) (c28 : o = 28 → wt = 2 ∧ wv = wa ∧ wa = nI a ∧ a < 12)
    (c26 : o ≤ 26 → wt = 0 ∧ yo' (336 + cnt) = nI o ∧ fo_ar T o a ∧ (fo_ma o → wa = nI a ∧ ya' (336 + cnt) = nI a) ∧ (16 ≤ o → o ≤ 18 → ∃ w, w < 12 ∧ wb = nI w ∧ yb' (336 + cnt) = nI w) ∧ (o = 12 → ∃ t, t ≤ cnt ∧ wb = nI (cnt - t) ∧ fo_ba P O A 336 a 13 (fo_q os) = some t)) :
    fo_Slot (upd xo (336 + cnt) (nI o)) (upd xa (336 + cnt) wa) (upd xb (336 + cnt) wb) (fo_kp (upd xk (336 + cnt) 0) os) (upd xz (336 + cnt) 1) (upd yt (336 + cnt) wt) yo' ya' yb' (upd yu (336 + cnt) (nI (fo_q os) - 1)) (upd yv (336 + cnt) wv) (fo_up P (336 + cnt) (fo_q os)) (fo_up Z (336 + cnt) 1) (fo_up O (336 + cnt) o) (fo_up A (336 + cnt) a) T 336 (cnt + 1) os' ∧ fo_Os (fo_up P (336 + cnt) (fo_q os)) os' := by
  have S' := S
  obtain ⟨s1, s2, s3, s4⟩ := S'
  obtain ⟨q1, q2, q3, q4⟩ := fo_par s2 hS h0
  have tr : fo_Tree (fo_up P (336 + cnt) (fo_q os)) (fo_up Z (336 + cnt) 1) 336 (cnt + 1) os' ∧ fo_Os (fo_up P (336 + cnt) (fo_q os)) os' := by
    rcases hos with e | e
    · rw [e]; exact fo_add_leaf s2 hS h0
    · rw [e]; exact fo_add_list s2 hS h0
  have hk0 : ∀ i, i ≤ cnt → (fo_kids (fo_up P (336 + cnt) (fo_q os)) 336 (cnt + 1) i).length = (fo_kids P 336 cnt i).length + (if fo_q os = i + 1 then 1 else 0) := by
    intro i hi
    unfold fo_kids
    rw [fo_kf_snoc, Nat.zero_add, List.length_append]
    have e1 := fo_kf_len (P := P) (P' := fo_up P (336 + cnt) (fo_q os)) (b := 336) (b' := 336) (i := i) cnt 0 (fun j _ hj => fo_un (by omega))
    rw [e1, fo_us]
    by_cases e : fo_q os = i + 1
    · rw [if_pos e, if_pos e]; rfl
    · rw [if_neg e, if_neg e]; rfl
  have hkn : (fo_kids P 336 cnt cnt).length = 0 := by
    have := fo_kf_skip P 336 cnt cnt 0 0 (fun j h1 h2 h3 => by
      have := (s2.1 j (by omega)).1
      omega)
    rw [Nat.add_zero] at this
    unfold fo_kids
    rw [this]; rfl
  have hkp : ∀ i, i < cnt → fo_kp (upd xk (336 + cnt) 0) os (336 + i) = nI ((fo_kids P 336 cnt i).length + (if fo_q os = i + 1 then 1 else 0)) := by
    intro i hi
    have n3 := (s4 i hi).1.2.2.1
    cases os with
    | nil =>
      show upd xk (336 + cnt) 0 (336 + i) = _
      rw [pk_un (by omega), n3, if_neg (by show ¬ 0 = i + 1; omega)]; rfl
    | cons p r =>
      show upd (upd xk (336 + cnt) 0) (336 + p) (upd xk (336 + cnt) 0 (336 + p) + 1) (336 + i) = _
      by_cases e : i = p
      · have e2 : fo_q (p :: r) = i + 1 := by rw [e]; rfl
        rw [if_pos e2, ← e, pk_us, pk_un (by omega), n3, nI_1]
      · have e2 : ¬ fo_q (p :: r) = i + 1 := by show ¬ p + 1 = i + 1; omega
        rw [if_neg e2, pk_un (by omega), pk_un (by omega), n3]; rfl
  have hkpn : fo_kp (upd xk (336 + cnt) 0) os (336 + cnt) = 0 := by
    cases os with
    | nil => exact pk_us
    | cons p r =>
      have hp := (s2.2.2 p (List.mem_cons_self ..)).1
      show upd (upd xk (336 + cnt) 0) (336 + p) _ (336 + cnt) = 0
      rw [pk_un (by omega), pk_us]
  refine ⟨⟨by omega, tr.1, fun i hi hno => ?_, fun i hi => ?_⟩, tr.2⟩
  · by_cases e : i = cnt
    · rw [e, pk_us, fo_us]; rfl
    · have hno2 : i ∉ os := by
        rcases hos with h | h
        · rw [← h]; exact hno
        · exact fun z => hno (by rw [h]; exact List.mem_cons_of_mem _ z)
      rw [pk_un (by omega), fo_un (by omega)]
      exact s3 i (by omega) hno2
  · by_cases e : i = cnt
    · subst e
      refine ⟨?_, fun hno hO => ?_⟩
      rotate_left
      · rcases hos with h | h
        · rw [fo_us] at hO
          exact absurd hO (by have := hlf h; omega)
        · exact absurd (by rw [h]; exact List.mem_cons_self ..) hno
      unfold fo_N
      rw [fo_us, fo_us, fo_us, pk_us, pk_us, pk_us, pk_us, pk_us, pk_us, hk0 _ (Nat.le_refl _), hkn, hkpn, if_neg (by omega)]
      refine ⟨rfl, ho, rfl, rfl, c27, c28, fun z => ?_, fun j hj => by
        cases os with
        | nil => cases hj
        | cons p r =>
          have e : j = p := Nat.succ.inj hj
          have hp := (s2.2.2 p (List.mem_cons_self ..)).1
          rw [fo_un (by omega), e]
          exact hOs p (List.mem_cons_self ..)⟩
      obtain ⟨m1, m2, m3, m4, m5, m6⟩ := c26 z
      refine ⟨m1, m2, m3, m4, m5, fun w => ?_⟩
      obtain ⟨t, t1, t2, t3⟩ := m6 w
      refine ⟨t, t1, t2, ?_⟩
      rw [← t3]
      show (if fo_up O (336 + i) o (336 + i) = 11 ∧ fo_up A (336 + i) a (336 + i) = a then some i else fo_ba _ _ _ 336 a 13 (fo_up P (336 + i) (fo_q os) (336 + i))) = _
      rw [fo_us, fo_us, fo_us, if_neg (by omega)]
      exact fo_ba_congr 13 _ (fun j hj => ⟨fo_un (by omega), fo_un (by omega), fun _ => fo_un (by omega)⟩) (fun j hj => (s2.1 j (by omega)).1)
    · have hno2 : i ∉ os' → i ∉ os := fun h z => h (by
        rcases hos with q | q
        · rw [q]; exact z
        · rw [q]; exact List.mem_cons_of_mem _ z)
      refine ⟨?_, fun hno hO => by rw [hk0 i (by omega), fo_un (by omega)]; rw [fo_un (by omega)] at hO; exact Nat.le_trans ((s4 i (by omega)).2 (hno2 hno) hO) (Nat.le_add_right _ _)⟩
      refine fo_N_keep (s4 i (by omega)).1 (pk_un (by omega)) (pk_un (by omega)) (pk_un (by omega)) ?_ (pk_un (by omega)) (hyo i (by omega)) (hya i (by omega)) (hyb i (by omega)) (pk_un (by omega)) (pk_un (by omega)) (fun j hj => ⟨fo_un (by omega), fo_un (by omega), fo_un (by omega)⟩) (fun j hj => (s2.1 j (by omega)).1)
      rw [hkp i (by omega), hk0 i (by omega)]
/-- the other slots don't see it -/
theorem fo_Slot_far {xo xa xb xk xz yt yo ya yb yu yv yo' ya' yb' : Nat → Int32} {P Z O A : Nat → Nat} {T cnt o a q m z s : Nat} {os : List Nat} {wo wa wb wt wu wv wz : Int32} (hs : s < 6) (S : fo_Slot xo xa xb xk xz yt yo ya yb yu yv P Z O A T (56 * s) cnt []) (hyo : ∀ j, j < 336 → yo' j = yo j) (hya : ∀ j, j < 336 → ya' j = ya j) (hyb : ∀ j, j < 336 → yb' j = yb j) :
    fo_Slot (upd xo (336 + m) wo) (upd xa (336 + m) wa) (upd xb (336 + m) wb) (fo_kp (upd xk (336 + m) 0) os) (upd xz (336 + m) wz) (upd yt (336 + m) wt) yo' ya' yb' (upd yu (336 + m) wu) (upd yv (336 + m) wv) (fo_up P (336 + m) q) (fo_up Z (336 + m) z) (fo_up O (336 + m) o) (fo_up A (336 + m) a) T (56 * s) cnt [] := by
  have hc : cnt ≤ 56 := S.1
  refine fo_Slot_keep S (fun i hi => ⟨pk_un (by omega), pk_un (by omega), pk_un (by omega), ?_, pk_un (by omega), pk_un (by omega), hyo _ (by omega), hya _ (by omega), hyb _ (by omega), pk_un (by omega), pk_un (by omega)⟩) (fun j hj => ⟨fo_un (by omega), fo_un (by omega), fo_un (by omega), fo_un (by omega)⟩)
  cases os with
  | nil => exact pk_un (by omega)
  | cons p r =>
    show upd (upd xk (336 + m) 0) (336 + p) _ (56 * s + i) = _
    rw [pk_un (by omega), pk_un (by omega)]
def fo_rm (P O : Nat → Nat) (cnt : Nat) : List Nat → Prop
  | [] => cnt = 0
  | o :: _ => cnt < 56 ∧ (fo_kids P 336 cnt o).length < fo_most (O (336 + o))
section
variable {f_openCount f_typeCount f_printedCount f_depthLimit f_fuelLimit f_lastStatus f_lastValue f_lastError f_lastDatum f_lastPlace f_beatsUsed f_frameCount f_mode f_currentNode f_currentEnv f_result f_calls f_inForce f_exitTarget f_exitValue f_exitType f_exitPlace : Int32} {a_nodeOp a_nodeA a_nodeB a_nodeParts a_nodeSize a_slotSize a_slotParams a_openLists a_typeParent a_elements a_locals a_specialValue a_specialHas a_printed a_frames : Nat → Int32} {h_depth h_fuel h_count h_open h_types h_sp h_ret h_xTarget h_xVal h_xType h_xPlace h_have h_exiting h_running h_outcome h_value h_error h_datum h_place h_beats h_printed : Int32} {c_sort c_op c_na c_nb c_up c_val c_size c_params c_parent c_global c_cells c_locals c_has c_node c_got c_handle c_pTarget c_pPlace c_act c_mode c_bVar c_pType c_v0 c_v1 c_v2 c_last c_bVal c_pVal c_out : Nat → Int32}
theorem xl_room {post : Int32 → Prop} {P Z O A : Nat → Nat} {T cnt : Nat} {os : List Nat} (S : fo_Slot a_nodeOp a_nodeA a_nodeB a_nodeParts a_nodeSize c_sort c_op c_na c_nb c_up c_val P Z O A T 336 cnt os) (hO : ∀ o, o ∈ os → O (336 + o) ≤ 26) (hl : os.length ≤ 12) (hol : fo_OL a_openLists os) (hoc : f_openCount = nI os.length) (hs : a_slotSize 6 = nI cnt) (h1 : fo_rm P O cnt os → post 1) (h0 : ¬ fo_rm P O cnt os → post 0) : wpX_hasRoom post (f_openCount, f_typeCount, f_printedCount, f_depthLimit, f_fuelLimit, f_lastStatus, f_lastValue, f_lastError, f_lastDatum, f_lastPlace, f_beatsUsed, f_frameCount, f_mode, f_currentNode, f_currentEnv, f_result, f_calls, f_inForce, f_exitTarget, f_exitValue, f_exitType, f_exitPlace, a_nodeOp, a_nodeA, a_nodeB, a_nodeParts, a_nodeSize, a_slotSize, a_slotParams, a_openLists, a_typeParent, a_elements, a_locals, a_specialValue, a_specialHas, a_printed, a_frames) := by
  obtain ⟨s1, s2, s3, s4⟩ := S
  subst hoc
  unfold wpX_hasRoom
  dsimp only
  rw [hs]
  refine pk_lt cnt 56 (fun a => ?_) (fun a => ?_)
  · cases os with
    | nil =>
      refine br_t rfl (pk_eq cnt 0 (fun b => h1 b) (fun b => h0 b))
    | cons o r =>
      obtain ⟨o1, _⟩ := s2.2.2 o (List.mem_cons_self ..)
      have hl : r.length + 1 ≤ 12 := hl
      refine br_f (nI_ne0 (Nat.succ_pos _) (by simp only [List.length_cons]; omega)) ?_
      rw [List.length_cons, nI_pred]
      refine ⟨vp_in_nI (by omega) (by decide), ?_⟩
      rw [nI_clamp (by omega), hol.1]
      refine nm_e ?_
      rw [nI_clamp (by omega)]
      obtain ⟨n1, n2, n3, _⟩ := (s4 o o1).1
      have ho := hO o (List.mem_cons_self ..)
      have hlen : (fo_kids P 336 cnt o).length ≤ cnt := fo_kf_le _ _ _ _ _
      have hm : fo_most (O (336 + o)) ≤ 56 := by
        unfold fo_most fo_least
        repeat' split
        all_goals omega
      refine ⟨vp_in_nI (by omega) (by decide), ?_⟩
      rw [n1]
      refine xl_most ho ?_
      refine ⟨vp_in_nI (by omega) (by decide), ?_⟩
      rw [n3]
      exact pk_le (fo_most (O (336 + o))) (fo_kids P 336 cnt o).length (fun b => h0 (fun z => by have := z.2; omega)) (fun b => h1 ⟨a, b⟩)
  · refine h0 ?_
    cases os with
    | nil => exact fun z => by have : cnt = 0 := z; omega
    | cons o r => exact fun z => by have := z.1; omega
theorem yl_room {post : Int32 → Prop} {P Z O A : Nat → Nat} {T cnt : Nat} {os : List Nat} (S : fo_Slot a_nodeOp a_nodeA a_nodeB a_nodeParts a_nodeSize c_sort c_op c_na c_nb c_up c_val P Z O A T 336 cnt os) (hO : ∀ o, o ∈ os → O (336 + o) ≤ 26) (hop : h_open = nI (fo_q os) - 1) (hs : h_count = nI cnt) (h1 : fo_rm P O cnt os → post 1) (h0 : ¬ fo_rm P O cnt os → post 0) : wpY_room post (h_depth, h_fuel, h_count, h_open, h_types, h_sp, h_ret, h_xTarget, h_xVal, h_xType, h_xPlace, h_have, h_exiting, h_running, h_outcome, h_value, h_error, h_datum, h_place, h_beats, h_printed, c_sort, c_op, c_na, c_nb, c_up, c_val, c_size, c_params, c_parent, c_global, c_cells, c_locals, c_has, c_node, c_got, c_handle, c_pTarget, c_pPlace, c_act, c_mode, c_bVar, c_pType, c_v0, c_v1, c_v2, c_last, c_bVal, c_pVal, c_out) := by
  obtain ⟨s1, s2, s3, s4⟩ := S
  subst hs hop
  refine pk_eq cnt 0 (fun a => h1 ?_) (fun a => ?_)
  · cases os with
    | nil => exact a
    | cons o r =>
      obtain ⟨o1, _⟩ := s2.2.2 o (List.mem_cons_self ..)
      omega
  · cases os with
    | nil => exact br_t (by decide) (h0 a)
    | cons o r =>
      obtain ⟨o1, _⟩ := s2.2.2 o (List.mem_cons_self ..)
      have e : nI (fo_q (o :: r)) - 1 = nI o := nI_pred o
      rw [e]
      refine br_f (nI_pos (by omega)) (pk_eq cnt 56 (fun b => h0 (fun z => by have := z.1; omega)) (fun b => ?_))
      rw [fb_336]
      have hlen : (fo_kids P 336 cnt o).length ≤ cnt := fo_kf_le _ _ _ _ _
      refine yl_parts (P := P) (b := 336) (i := o) (cnt := cnt) 6 rfl (by omega) s1 (by omega) (fun j hj => ⟨(s4 j hj).1.2.2.2.1, (s2.1 j hj).1⟩) (fun q hq => yl_lenF (by omega) rfl hq) ?_
      refine ⟨vp_in_nI (by omega) (by decide), ?_⟩
      have ho := hO o (List.mem_cons_self ..)
      rw [nI_clamp (by omega), ((s4 o o1).1.2.2.2.2.2.2.1 ho).2.1]
      refine yl_most ho ?_
      have hm : fo_most (O (336 + o)) ≤ 56 := by
        unfold fo_most fo_least
        repeat' split
        all_goals omega
      exact pk_le (fo_most (O (336 + o))) (fo_kids P 336 cnt o).length (fun b => h0 (fun z => by have := z.2; omega)) (fun b => h1 ⟨by omega, b⟩)
theorem xl_add {post : SX → Prop} {cnt : Nat} {os : List Nat} (p0 p1 p2 : Int32) (hc : cnt < 56) (hl : os.length ≤ 12) (hol : fo_OL a_openLists os) (hlt : ∀ o, o ∈ os → o < 56) (hoc : f_openCount = nI os.length) (hs : a_slotSize 6 = nI cnt) (hp : post (f_openCount, f_typeCount, f_printedCount, f_depthLimit, f_fuelLimit, f_lastStatus, f_lastValue, f_lastError, f_lastDatum, f_lastPlace, f_beatsUsed, f_frameCount, f_mode, f_currentNode, f_currentEnv, f_result, f_calls, f_inForce, f_exitTarget, f_exitValue, f_exitType, f_exitPlace, upd a_nodeOp (336 + cnt) p0, upd a_nodeA (336 + cnt) p1, upd a_nodeB (336 + cnt) p2, fo_kp (upd a_nodeParts (336 + cnt) 0) os, upd a_nodeSize (336 + cnt) 1, upd a_slotSize 6 (nI (cnt + 1)), a_slotParams, a_openLists, a_typeParent, a_elements, a_locals, a_specialValue, a_specialHas, a_printed, a_frames)) : wpX_addNode post (f_openCount, f_typeCount, f_printedCount, f_depthLimit, f_fuelLimit, f_lastStatus, f_lastValue, f_lastError, f_lastDatum, f_lastPlace, f_beatsUsed, f_frameCount, f_mode, f_currentNode, f_currentEnv, f_result, f_calls, f_inForce, f_exitTarget, f_exitValue, f_exitType, f_exitPlace, a_nodeOp, a_nodeA, a_nodeB, a_nodeParts, a_nodeSize, a_slotSize, a_slotParams, a_openLists, a_typeParent, a_elements, a_locals, a_specialValue, a_specialHas, a_printed, a_frames) p0 p1 p2 := by
  unfold wpX_addNode
  have e : (336 : Int32) + a_slotSize 6 = nI (336 + cnt) := by rw [hs]; exact fb_336 cnt
  have i : vp_in (nI (336 + cnt)) 392 := vp_in_nI (by omega) (by decide)
  refine nm_r e ⟨i, nm_e ⟨i, nm_e ⟨i, nm_e ⟨i, nm_e ⟨i, nm_e ?_⟩⟩⟩⟩⟩
  rw [nI_clamp (by omega)]
  subst hoc
  cases os with
  | nil =>
    refine br_t (by decide) (nm_r ?_ hp)
    rw [hs, nI_1]
  | cons o r =>
    have hl : r.length + 1 ≤ 12 := hl
    have ho := hlt o (List.mem_cons_self ..)
    refine br_f (nI_nle (Nat.succ_pos _) (by simp only [List.length_cons]; omega)) ?_
    rw [List.length_cons, nI_pred]
    refine ⟨vp_in_nI (by omega) (by decide), ?_⟩
    rw [nI_clamp (by omega), hol.1]
    refine ⟨vp_in_nI (by omega) (by decide), vp_in_nI (by omega) (by decide), nm_e ?_⟩
    rw [nI_clamp (by omega)]
    refine nm_r (e' := upd a_slotSize 6 (nI (cnt + 1))) ?_ hp
    rw [hs, nI_1]
theorem yl_add {post : SY → Prop} {cnt w : Nat} {os : List Nat} (p1 : Int32) (hw : w < 128) (hc : cnt < 56) (hq : fo_q os < 128) (hop : h_open = nI (fo_q os) - 1) (hs : h_count = nI cnt) (hp : post (h_depth, h_fuel, nI (cnt + 1), h_open, h_types, h_sp, h_ret, h_xTarget, h_xVal, h_xType, h_xPlace, h_have, h_exiting, h_running, h_outcome, h_value, h_error, h_datum, h_place, h_beats, h_printed, upd c_sort (336 + cnt) (nI w), upd c_op (336 + cnt) (-1), c_na, c_nb, upd c_up (336 + cnt) (nI (fo_q os) - 1), upd c_val (336 + cnt) p1, c_size, c_params, c_parent, c_global, c_cells, c_locals, c_has, c_node, c_got, c_handle, c_pTarget, c_pPlace, c_act, c_mode, c_bVar, c_pType, c_v0, c_v1, c_v2, c_last, c_bVal, c_pVal, c_out)) : wpY_add post (h_depth, h_fuel, h_count, h_open, h_types, h_sp, h_ret, h_xTarget, h_xVal, h_xType, h_xPlace, h_have, h_exiting, h_running, h_outcome, h_value, h_error, h_datum, h_place, h_beats, h_printed, c_sort, c_op, c_na, c_nb, c_up, c_val, c_size, c_params, c_parent, c_global, c_cells, c_locals, c_has, c_node, c_got, c_handle, c_pTarget, c_pPlace, c_act, c_mode, c_bVar, c_pType, c_v0, c_v1, c_v2, c_last, c_bVal, c_pVal, c_out) (nI w) p1 := by
  subst hs hop
  have i : vp_in (nI (336 + cnt)) 392 := vp_in_nI (by omega) (by decide)
  unfold wpY_add
  dsimp only
  rw [fb_byte hw, fb_up hq, fb_up' hq, show vp_nar .byte (-1) = -1 from by rw [vp_nar_byte]; decide]
  refine nm_r (fb_336 cnt) ⟨i, nm_e ⟨i, nm_e ⟨i, nm_e ⟨i, nm_e (nm_r (nI_1 cnt) ?_)⟩⟩⟩⟩
  rw [nI_clamp (by omega)]
  exact hp
end
