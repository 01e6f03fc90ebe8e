/-! how the tree of the form grows -/
def fo_up (f : Nat → Nat) (k x : Nat) : Nat → Nat := fun j => if j = k then x else f j
theorem fo_us {f : Nat → Nat} {k x : Nat} : fo_up f k x k = x := if_pos rfl
theorem fo_un {f : Nat → Nat} {k x j : Nat} (h : j ≠ k) : fo_up f k x j = f j := if_neg h
def fo_q : List Nat → Nat
  | [] => 0
  | o :: _ => o + 1
theorem fo_par {P Z : Nat → Nat} {cnt : Nat} {os : List Nat} (T : fo_Tree P Z 336 cnt os) (S : fo_Os P os) (h0 : os = [] → cnt = 0) : fo_q os ≤ cnt ∧ (0 < cnt → 1 ≤ fo_q os) ∧ (∀ c, c ∈ os → c + 1 ≤ fo_q os) ∧ (∀ c, c < cnt → c ∉ os → ¬ (c + 1 ≤ fo_q os ∧ fo_q os ≤ c + Z (336 + c))) := by
  obtain ⟨T1, T2, T3⟩ := T
  cases os with
  | nil =>
    have := h0 rfl
    subst this
    exact ⟨Nat.le_refl _, fun h => absurd h (Nat.lt_irrefl _), fun c h => (by cases h), fun c h => absurd h (Nat.not_lt_zero _)⟩
  | cons o r =>
    have ho := (T3 o (List.mem_cons_self ..)).1
    refine ⟨ho, fun _ => Nat.succ_le_succ (Nat.zero_le _), fun c h => ?_, fun c h1 h2 h3 => ?_⟩
    · rcases List.mem_cons.mp h with e | e
      · rw [e]; exact Nat.le_refl _
      · exact Nat.succ_le_succ (Nat.le_of_lt (fo_Os_lt S c e))
    · obtain ⟨_, _, _, a4⟩ := T2 c h1 h2
      have hne : c ≠ o := fun e => h2 (by rw [e]; exact List.mem_cons_self ..)
      have h3 : c + 1 ≤ o + 1 ∧ o + 1 ≤ c + Z (336 + c) := h3
      exact a4 o (List.mem_cons_self ..) ⟨by omega, by omega⟩
theorem fo_Os_congr {P P' : Nat → Nat} : ∀ {os : List Nat}, (∀ o, o ∈ os → P' (336 + o) = P (336 + o)) → fo_Os P os → fo_Os P' os
  | [], _, _ => trivial
  | [o], h, S => ⟨by show P' (336 + o) = 0; rw [h o (List.mem_cons_self ..)]; exact S.1, trivial⟩
  | o :: o' :: r, h, S => ⟨by show P' (336 + o) = o' + 1 ∧ o' < o; rw [h o (List.mem_cons_self ..)]; exact S.1, fo_Os_congr (fun q hq => h q (List.mem_cons_of_mem _ hq)) S.2⟩
theorem fo_add_leaf {P Z : Nat → Nat} {cnt : Nat} {os : List Nat} (T : fo_Tree P Z 336 cnt os) (S : fo_Os P os) (h0 : os = [] → cnt = 0) : fo_Tree (fo_up P (336 + cnt) (fo_q os)) (fo_up Z (336 + cnt) 1) 336 (cnt + 1) os ∧ fo_Os (fo_up P (336 + cnt) (fo_q os)) os := by
  obtain ⟨q1, q2, q3, q4⟩ := fo_par T S h0
  obtain ⟨T1, T2, T3⟩ := T
  have hP : ∀ j, j < cnt → fo_up P (336 + cnt) (fo_q os) (336 + j) = P (336 + j) := fun j h => fo_un (by omega)
  have hZ : ∀ j, j < cnt → fo_up Z (336 + cnt) 1 (336 + j) = Z (336 + j) := fun j h => fo_un (by omega)
  have hPn : fo_up P (336 + cnt) (fo_q os) (336 + cnt) = fo_q os := fo_us
  have hZn : fo_up Z (336 + cnt) 1 (336 + cnt) = 1 := fo_us
  refine ⟨⟨?_, ?_, ?_⟩, fo_Os_congr (fun o ho => hP o (T3 o ho).1) S⟩
  · intro i hi
    rcases Nat.lt_or_ge i cnt with h | h
    · rw [hP i h]; exact T1 i h
    · have e : i = cnt := by omega
      rw [e, hPn]; exact ⟨q1, q2⟩
  · intro c hc ho
    rcases Nat.lt_or_ge c cnt with h | h
    · obtain ⟨a1, a2, a3, a4⟩ := T2 c h ho
      rw [hZ c h]
      refine ⟨a1, by omega, fun j hj => ?_, a4⟩
      rcases Nat.lt_or_ge j cnt with g | g
      · rw [hP j g]; exact a3 j g
      · have e : j = cnt := by omega
        have := q4 c h ho
        rw [e, hPn]
        exact ⟨fun z => by omega, fun z => absurd z this⟩
    · have e : c = cnt := by omega
      subst e
      rw [hZn]
      refine ⟨Nat.le_refl _, Nat.le_refl _, fun j hj => ⟨fun z => by omega, fun z => ?_⟩, fun o ho' z => by omega⟩
      rcases Nat.lt_or_ge j c with g | g
      · rw [hP j g] at z
        have := (T1 j g).1
        omega
      · have e : j = c := by omega
        rw [e, hPn] at z
        omega
  · intro c hc
    obtain ⟨a1, a2⟩ := T3 c hc
    refine ⟨by omega, fun j hj hcj => ?_⟩
    rcases Nat.lt_or_ge j cnt with g | g
    · rw [hP j g]; exact a2 j g hcj
    · have e : j = cnt := by omega
      rw [e, hPn]; exact q3 c hc
theorem fo_add_list {P Z : Nat → Nat} {cnt : Nat} {os : List Nat} (T : fo_Tree P Z 336 cnt os) (S : fo_Os P os) (h0 : os = [] → cnt = 0) : fo_Tree (fo_up P (336 + cnt) (fo_q os)) (fo_up Z (336 + cnt) 1) 336 (cnt + 1) (cnt :: os) ∧ fo_Os (fo_up P (336 + cnt) (fo_q os)) (cnt :: os) := by
  have hn : cnt ∉ os := fun h => Nat.lt_irrefl _ (T.2.2 cnt h).1
  have hlt : ∀ o, o ∈ os → o < cnt := fun o h => (T.2.2 o h).1
  obtain ⟨⟨A1, A2, A3⟩, A4⟩ := fo_add_leaf T S h0
  have hPn : fo_up P (336 + cnt) (fo_q os) (336 + cnt) = fo_q os := fo_us
  refine ⟨⟨A1, ?_, ?_⟩, ?_, A4⟩
  · intro c hc ho
    have h1 : c ≠ cnt := fun e => ho (by rw [e]; exact List.mem_cons_self ..)
    have h2 : c ∉ os := fun e => ho (List.mem_cons_of_mem _ e)
    obtain ⟨a1, a2, a3, a4⟩ := A2 c hc h2
    obtain ⟨b1, b2, b3, b4⟩ := T.2.1 c (by omega) h2
    refine ⟨a1, a2, a3, fun o ho' z => ?_⟩
    rcases List.mem_cons.mp ho' with e | e
    · rw [fo_un (by omega)] at z
      omega
    · exact a4 o e z
  · intro c hc
    rcases List.mem_cons.mp hc with e | e
    · exact ⟨by omega, fun j h1 h2 => by omega⟩
    · exact A3 c e
  · cases os with
    | nil => exact hPn
    | cons o r => exact ⟨hPn, hlt o (List.mem_cons_self ..)⟩
theorem fo_close {P Z : Nat → Nat} {cnt o : Nat} {r : List Nat} (T : fo_Tree P Z 336 cnt (o :: r)) (S : fo_Os P (o :: r)) : fo_Tree P (fo_up Z (336 + o) (cnt - o)) 336 cnt r ∧ fo_Os P r := by
  obtain ⟨T1, T2, T3⟩ := T
  obtain ⟨t1, t2⟩ := T3 o (List.mem_cons_self ..)
  have hZn : fo_up Z (336 + o) (cnt - o) (336 + o) = cnt - o := fo_us
  refine ⟨⟨T1, ?_, ?_⟩, S.2⟩
  · intro c hc ho
    rcases Nat.lt_or_ge c o with h | h
    · have h2 : c ∉ o :: r := fun z => by
        rcases List.mem_cons.mp z with e | e
        · omega
        · exact ho e
      obtain ⟨a1, a2, a3, a4⟩ := T2 c hc h2
      rw [fo_un (by omega)]
      exact ⟨a1, a2, a3, fun q hq => a4 q (List.mem_cons_of_mem _ hq)⟩
    · rcases Nat.lt_or_ge o c with h3 | h3
      · have h2 : c ∉ o :: r := fun z => by
          rcases List.mem_cons.mp z with e | e
          · omega
          · exact ho e
        obtain ⟨a1, a2, a3, a4⟩ := T2 c hc h2
        rw [fo_un (by omega)]
        exact ⟨a1, a2, a3, fun q hq => a4 q (List.mem_cons_of_mem _ hq)⟩
      · have e : c = o := by omega
        subst e
        rw [hZn]
        refine ⟨by omega, by omega, fun j hj => ⟨fun z => ?_, fun z => ?_⟩, fun q hq z => ?_⟩
        · have := t2 j hj z.1
          have := (T1 j hj).1
          omega
        · have := (T1 j hj).1
          omega
        · have := fo_Os_lt S q hq
          omega
  · intro c hc
    exact T3 c (List.mem_cons_of_mem _ hc)
theorem fo_tree_congr {P P' Z Z' : Nat → Nat} {b b' cnt : Nat} {os : List Nat} (hP : ∀ i, i < cnt → P' (b' + i) = P (b + i)) (hZ : ∀ i, i < cnt → Z' (b' + i) = Z (b + i)) (T : fo_Tree P Z b cnt os) : fo_Tree P' Z' b' cnt os := by
  obtain ⟨T1, T2, T3⟩ := T
  refine ⟨fun i hi => by rw [hP i hi]; exact T1 i hi, fun c hc ho => ?_, fun c hc => ⟨(T3 c hc).1, fun j hj h => by rw [hP j hj]; exact (T3 c hc).2 j hj h⟩⟩
  obtain ⟨a1, a2, a3, a4⟩ := T2 c hc ho
  rw [hZ c hc]
  exact ⟨a1, a2, fun j hj => by rw [hP j hj]; exact a3 j hj, a4⟩
/-- the innermost BLOCK of the label, from place p - 1 on outwards -/
def fo_ba (P O A : Nat → Nat) (b lab : Nat) : Nat → Nat → Option Nat
  | 0, _ => none
  | _ + 1, 0 => none
  | f + 1, i + 1 => if O (b + i) = 11 ∧ A (b + i) = lab then some i else fo_ba P O A b lab f (P (b + i))
theorem fo_ba_congr {P P' O O' A A' : Nat → Nat} {b b' lab : Nat} : ∀ (f p : Nat), (∀ i, i < p → P' (b' + i) = P (b + i) ∧ O' (b' + i) = O (b + i) ∧ (O (b + i) = 11 → A' (b' + i) = A (b + i))) → (∀ i, i < p → P (b + i) ≤ i) → fo_ba P' O' A' b' lab f p = fo_ba P O A b lab f p
  | 0, _, _, _ => rfl
  | _ + 1, 0, _, _ => rfl
  | f + 1, i + 1, h, hp => by
    obtain ⟨h1, h2, h3⟩ := h i (by omega)
    have := hp i (by omega)
    show (if O' (b' + i) = 11 ∧ A' (b' + i) = lab then some i else fo_ba P' O' A' b' lab f (P' (b' + i))) = (if O (b + i) = 11 ∧ A (b + i) = lab then some i else fo_ba P O A b lab f (P (b + i)))
    have ih := fo_ba_congr (P := P) (P' := P') (O := O) (O' := O') (A := A) (A' := A') (b := b) (b' := b') (lab := lab) f (P (b + i)) (fun j hj => h j (by omega)) (fun j hj => hp j (by omega))
    rw [h1, h2, ih]
    by_cases e : O (b + i) = 11
    · rw [h3 e]
    · rw [if_neg (fun z => e z.1), if_neg (fun z => e z.1)]
/-- the same among the lists that are open -/
def fo_fd (O A : Nat → Nat) (lab : Nat) : List Nat → Option Nat
  | [] => none
  | o :: r => if O (336 + o) = 11 ∧ A (336 + o) = lab then some o else fo_fd O A lab r
theorem fo_fd_ba {P O A : Nat → Nat} {lab : Nat} : ∀ (f : Nat) (os : List Nat), os.length < f → fo_Os P os → fo_ba P O A 336 lab f (fo_q os) = fo_fd O A lab os
  | 0, _, h, _ => by omega
  | f + 1, [], _, _ => rfl
  | f + 1, o :: r, h, S => by
    have hr : P (336 + o) = fo_q r := by
      cases r with
      | nil => exact S.1
      | cons o' r' => exact S.1.1
    have ih := fo_fd_ba (P := P) (O := O) (A := A) (lab := lab) f r (by simp only [List.length_cons] at h; omega) S.2
    show (if O (336 + o) = 11 ∧ A (336 + o) = lab then some o else fo_ba P O A 336 lab f (P (336 + o))) = (if O (336 + o) = 11 ∧ A (336 + o) = lab then some o else fo_fd O A lab r)
    rw [hr, ih]
theorem fo_fd_mem {O A : Nat → Nat} {lab t : Nat} : ∀ {os : List Nat}, fo_fd O A lab os = some t → t ∈ os ∧ O (336 + t) = 11 ∧ A (336 + t) = lab
  | [], h => by cases h
  | o :: r, h => by
    have h : (if O (336 + o) = 11 ∧ A (336 + o) = lab then some o else fo_fd O A lab r) = some t := h
    by_cases e : O (336 + o) = 11 ∧ A (336 + o) = lab
    · rw [if_pos e] at h
      cases h
      exact ⟨List.mem_cons_self .., e⟩
    · rw [if_neg e] at h
      obtain ⟨a, b⟩ := fo_fd_mem h
      exact ⟨List.mem_cons_of_mem _ a, b⟩
def fo_OL (a : Nat → Int32) : List Nat → Prop
  | [] => True
  | o :: r => a r.length = nI (336 + o) ∧ fo_OL a r
theorem fo_OL_upd {a : Nat → Int32} {x : Int32} : ∀ {os : List Nat} {k : Nat}, os.length ≤ k → fo_OL a os → fo_OL (upd a k x) os
  | [], _, _, _ => trivial
  | o :: r, k, hk, h => by
    have hk : r.length + 1 ≤ k := hk
    exact ⟨by rw [pk_un (by omega)]; exact h.1, fo_OL_upd (by omega) h.2⟩
