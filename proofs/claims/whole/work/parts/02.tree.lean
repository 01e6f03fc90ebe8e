/-! forms as trees in preorder: P n is one more than the parent's place in the slot (0: the root), Z n the size of the part that begins at n -/
def fo_kf (P : Nat → Nat) (b i : Nat) : Nat → Nat → List Nat
  | 0, _ => []
  | d + 1, t => if P (b + t) = i + 1 then (b + t) :: fo_kf P b i d (t + 1) else fo_kf P b i d (t + 1)
def fo_kids (P : Nat → Nat) (b cnt i : Nat) : List Nat := fo_kf P b i cnt 0
theorem fo_kf_snoc (P : Nat → Nat) (b i : Nat) : ∀ d t, fo_kf P b i (d + 1) t = fo_kf P b i d t ++ (if P (b + (t + d)) = i + 1 then [b + (t + d)] else [])
  | 0, t => by
    show (if P (b + t) = i + 1 then (b + t) :: [] else []) = [] ++ (if P (b + (t + 0)) = i + 1 then [b + (t + 0)] else [])
    simp
  | d + 1, t => by
    show (if P (b + t) = i + 1 then (b + t) :: fo_kf P b i (d + 1) (t + 1) else fo_kf P b i (d + 1) (t + 1)) = (if P (b + t) = i + 1 then (b + t) :: fo_kf P b i d (t + 1) else fo_kf P b i d (t + 1)) ++ _
    rw [fo_kf_snoc P b i d (t + 1)]
    have e : t + 1 + d = t + (d + 1) := by omega
    rw [e]
    by_cases h : P (b + t) = i + 1
    · rw [if_pos h, if_pos h]; rfl
    · rw [if_neg h, if_neg h]
theorem fo_kf_len {P P' : Nat → Nat} {b b' i : Nat} : ∀ d t, (∀ j, t ≤ j → j < t + d → P' (b' + j) = P (b + j)) → (fo_kf P' b' i d t).length = (fo_kf P b i d t).length
  | 0, _, _ => rfl
  | d + 1, t, h => by
    have ih := fo_kf_len (P := P) (P' := P') (b := b) (b' := b') (i := i) d (t + 1) (fun j h1 h2 => h j (by omega) (by omega))
    show (if P' (b' + t) = i + 1 then (b' + t) :: fo_kf P' b' i d (t + 1) else fo_kf P' b' i d (t + 1)).length = (if P (b + t) = i + 1 then (b + t) :: fo_kf P b i d (t + 1) else fo_kf P b i d (t + 1)).length
    rw [h t (by omega) (by omega)]
    by_cases e : P (b + t) = i + 1
    · rw [if_pos e, if_pos e]; exact congrArg (· + 1) ih
    · rw [if_neg e, if_neg e]; exact ih
theorem fo_kf_le (P : Nat → Nat) (b i : Nat) : ∀ d t, (fo_kf P b i d t).length ≤ d
  | 0, _ => Nat.le_refl _
  | d + 1, t => by
    have ih := fo_kf_le P b i d (t + 1)
    show (if P (b + t) = i + 1 then (b + t) :: fo_kf P b i d (t + 1) else fo_kf P b i d (t + 1)).length ≤ d + 1
    by_cases e : P (b + t) = i + 1
    · rw [if_pos e]; exact Nat.succ_le_succ ih
    · rw [if_neg e]; omega
theorem fo_kf_skip (P : Nat → Nat) (b i : Nat) : ∀ e d t, (∀ j, t ≤ j → j < t + e → P (b + j) ≠ i + 1) → fo_kf P b i (e + d) t = fo_kf P b i d (t + e)
  | 0, d, t, _ => by rw [Nat.zero_add, Nat.add_zero]
  | e + 1, d, t, h => by
    have ih := fo_kf_skip P b i e d (t + 1) (fun j h1 h2 => h j (by omega) (by omega))
    have e1 : e + 1 + d = (e + d) + 1 := by omega
    rw [e1]
    show (if P (b + t) = i + 1 then (b + t) :: fo_kf P b i (e + d) (t + 1) else fo_kf P b i (e + d) (t + 1)) = _
    rw [if_neg (h t (by omega) (by omega)), ih]
    exact congrArg (fo_kf P b i d) (by omega)
theorem fo_kf_mem {P : Nat → Nat} {b i c : Nat} : ∀ d t, c ∈ fo_kf P b i d t → ∃ j, t ≤ j ∧ j < t + d ∧ c = b + j ∧ P (b + j) = i + 1
  | 0, _, h => by cases h
  | d + 1, t, h => by
    have h : c ∈ (if P (b + t) = i + 1 then (b + t) :: fo_kf P b i d (t + 1) else fo_kf P b i d (t + 1)) := h
    by_cases e : P (b + t) = i + 1
    · rw [if_pos e] at h
      rcases List.mem_cons.mp h with h | h
      · exact ⟨t, by omega, by omega, h, e⟩
      · obtain ⟨j, h1, h2, h3⟩ := fo_kf_mem d (t + 1) h
        exact ⟨j, by omega, by omega, h3⟩
    · rw [if_neg e] at h
      obtain ⟨j, h1, h2, h3⟩ := fo_kf_mem d (t + 1) h
      exact ⟨j, by omega, by omega, h3⟩
/-- the tree of a slot with cnt nodes; os: the lists that are still open, the innermost first -/
def fo_Tree (P Z : Nat → Nat) (b cnt : Nat) (os : List Nat) : Prop :=
  (∀ i, i < cnt → P (b + i) ≤ i ∧ (0 < i → 1 ≤ P (b + i))) ∧
  (∀ c, c < cnt → c ∉ os → 1 ≤ Z (b + c) ∧ c + Z (b + c) ≤ cnt ∧ (∀ j, j < cnt → ((c < j ∧ j < c + Z (b + c)) ↔ (c + 1 ≤ P (b + j) ∧ P (b + j) ≤ c + Z (b + c)))) ∧ (∀ o, o ∈ os → ¬ (c < o ∧ o < c + Z (b + c)))) ∧
  (∀ c, c ∈ os → c < cnt ∧ ∀ j, j < cnt → c < j → c + 1 ≤ P (b + j))
/-- the lists of os lie in each other -/
def fo_Os (P : Nat → Nat) : List Nat → Prop
  | [] => True
  | o :: r => (match r with | [] => P (336 + o) = 0 | o' :: _ => P (336 + o) = o' + 1 ∧ o' < o) ∧ fo_Os P r
theorem fo_Os_lt {P : Nat → Nat} : ∀ {os : List Nat} {o : Nat}, fo_Os P (o :: os) → ∀ q, q ∈ os → q < o
  | [], _, _, q, h => by cases h
  | o' :: r, o, h, q, hq => by
    obtain ⟨⟨_, h1⟩, h2⟩ := h
    rcases List.mem_cons.mp hq with e | e
    · omega
    · have := fo_Os_lt h2 q e
      omega
def fo_con (Z : Nat → Nat) (e : Nat) : Nat → List Nat → Prop
  | p, [] => p = e
  | p, c :: cs => c = p ∧ 1 ≤ Z p ∧ fo_con Z e (p + Z p) cs
def fo_sum (Z : Nat → Nat) : List Nat → Nat
  | [] => 0
  | c :: cs => Z c + fo_sum Z cs
theorem fo_con_sum {Z : Nat → Nat} {e : Nat} : ∀ {p : Nat} {l : List Nat}, fo_con Z e p l → p + fo_sum Z l = e
  | p, [], h => h
  | p, c :: cs, h => by
    obtain ⟨rfl, _, h⟩ := h
    have := fo_con_sum h
    show c + (Z c + fo_sum Z cs) = e
    omega
theorem fo_con_drop {Z : Nat → Nat} {e : Nat} : ∀ (k : Nat) {p : Nat} {l : List Nat}, fo_con Z e p l → ∃ p', fo_con Z e p' (l.drop k)
  | 0, p, l, h => ⟨p, h⟩
  | k + 1, p, [], h => ⟨p, h⟩
  | k + 1, p, c :: cs, h => fo_con_drop k h.2.2
theorem fo_tree_nest {P Z : Nat → Nat} {b cnt : Nat} (T : fo_Tree P Z b cnt []) {t q : Nat} (ht : t < cnt) (hq : t < q) (hqe : q < t + Z (b + t)) : q + Z (b + q) ≤ t + Z (b + t) := by
  obtain ⟨T1, T2, _⟩ := T
  obtain ⟨a1, a2, a3, _⟩ := T2 t ht (by simp)
  have hqc : q < cnt := by omega
  obtain ⟨b1, b2, b3, _⟩ := T2 q hqc (by simp)
  rcases Nat.lt_or_ge (t + Z (b + t)) (q + Z (b + q)) with h | h
  · have he : t + Z (b + t) < cnt := by omega
    have r1 := (b3 _ he).mp ⟨by omega, h⟩
    have r2 := a3 _ he
    have r3 := (T1 _ he).1
    omega
  · exact h
theorem fo_kids_step {P Z : Nat → Nat} {b cnt : Nat} (T : fo_Tree P Z b cnt []) {i t : Nat} (hi : i < cnt) (ht : i < t) (hte : t < i + Z (b + i)) (bd : ∀ q, i < q → q < t → q + Z (b + q) ≤ t) : fo_kf P b i (cnt - t) t = (b + t) :: fo_kf P b i (cnt - (t + Z (b + t))) (t + Z (b + t)) ∧ t + Z (b + t) ≤ i + Z (b + i) ∧ 1 ≤ Z (b + t) ∧ (∀ q, i < q → q < t + Z (b + t) → q + Z (b + q) ≤ t + Z (b + t)) := by
  have T' := T
  obtain ⟨T1, T2, _⟩ := T'
  obtain ⟨a1, a2, a3, _⟩ := T2 i hi (by simp)
  have htc : t < cnt := by omega
  obtain ⟨b1, b2, b3, _⟩ := T2 t htc (by simp)
  have n1 := fo_tree_nest T hi ht hte
  have hp : P (b + t) = i + 1 := by
    have r1 := (a3 t htc).mp ⟨ht, hte⟩
    have r2 := (T1 t htc).1
    rcases Nat.lt_or_ge (i + 1) (P (b + t)) with h | h
    · have hq := bd (P (b + t) - 1) (by omega) (by omega)
      have hqc : P (b + t) - 1 < cnt := by omega
      obtain ⟨c1, c2, c3, _⟩ := T2 (P (b + t) - 1) hqc (by simp)
      have := (c3 t htc).mpr ⟨by omega, by omega⟩
      omega
    · omega
  refine ⟨?_, n1, b1, ?_⟩
  · have e1 : cnt - t = (cnt - t - 1) + 1 := by omega
    rw [e1]
    show (if P (b + t) = i + 1 then (b + t) :: fo_kf P b i (cnt - t - 1) (t + 1) else _) = _
    rw [if_pos hp]
    have e2 : cnt - t - 1 = (Z (b + t) - 1) + (cnt - (t + Z (b + t))) := by omega
    rw [e2, fo_kf_skip P b i (Z (b + t) - 1) (cnt - (t + Z (b + t))) (t + 1)]
    · exact congrArg (fun z => (b + t) :: fo_kf P b i (cnt - (t + Z (b + t))) z) (by omega)
    · intro j h1 h2 h3
      have := (b3 j (by omega)).mp ⟨by omega, by omega⟩
      omega
  · intro q h1 h2
    rcases Nat.lt_or_ge q t with h | h
    · have := bd q h1 h
      omega
    · rcases Nat.lt_or_ge t q with h3 | h3
      · exact fo_tree_nest T htc h3 h2
      · have : q = t := by omega
        rw [this]
        exact Nat.le_refl _
theorem fo_kids_con' {P Z : Nat → Nat} {b cnt : Nat} (T : fo_Tree P Z b cnt []) {i : Nat} (hi : i < cnt) : ∀ (d t : Nat), i + Z (b + i) - t ≤ d → i < t → t ≤ i + Z (b + i) → (∀ q, i < q → q < t → q + Z (b + q) ≤ t) → fo_con Z (b + (i + Z (b + i))) (b + t) (fo_kf P b i (cnt - t) t) := by
  intro d
  induction d with
  | zero =>
    intro t h1 h2 h3 bd
    have e : t = i + Z (b + i) := by omega
    obtain ⟨T1, T2, _⟩ := T
    obtain ⟨a1, a2, a3, _⟩ := T2 i hi (by simp)
    have := fo_kf_skip P b i (cnt - t) 0 t (fun j g1 g2 g3 => by
      have := (a3 j (by omega)).mpr ⟨by omega, by omega⟩
      omega)
    rw [Nat.add_zero] at this
    rw [this, ← e]
    exact rfl
  | succ d ih =>
    intro t h1 h2 h3 bd
    rcases Nat.lt_or_ge t (i + Z (b + i)) with h | h
    · obtain ⟨g1, g2, g3, g4⟩ := fo_kids_step T hi h2 h bd
      rw [g1]
      refine ⟨rfl, g3, ?_⟩
      have := ih (t + Z (b + t)) (by omega) (by omega) g2 g4
      have e : b + t + Z (b + t) = b + (t + Z (b + t)) := by omega
      rw [e]
      exact this
    · exact ih t (by omega) h2 h3 bd
theorem fo_kids_con {P Z : Nat → Nat} {b cnt : Nat} (T : fo_Tree P Z b cnt []) {i : Nat} (hi : i < cnt) : fo_con Z (b + (i + Z (b + i))) (b + (i + 1)) (fo_kids P b cnt i) := by
  have T' := T
  obtain ⟨T1, T2, _⟩ := T'
  obtain ⟨a1, a2, a3, _⟩ := T2 i hi (by simp)
  have h := fo_kids_con' T hi (Z (b + i)) (i + 1) (by omega) (by omega) (by omega) (fun q h1 h2 => by omega)
  have e : cnt = (i + 1) + (cnt - (i + 1)) := by omega
  have s := fo_kf_skip P b i (i + 1) (cnt - (i + 1)) 0 (fun j h1 h2 h3 => by
    have := (T1 j (by omega)).1
    omega)
  rw [← e, Nat.zero_add] at s
  unfold fo_kids
  rw [s]
  exact h
