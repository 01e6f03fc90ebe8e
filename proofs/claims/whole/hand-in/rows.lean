section
theorem pk_us {f : Nat → Int32} {k : Nat} {x : Int32} : upd f k x k = x := if_pos rfl
theorem pk_un {f : Nat → Int32} {k j : Nat} {x : Int32} (h : j ≠ k) : upd f k x j = f j := if_neg h
theorem pk_sub {a b : Nat} (h : b ≤ a) : nI a - nI b = nI (a - b) := by
  obtain ⟨c, rfl⟩ : ∃ c, a = c + b := ⟨a - b, by omega⟩
  rw [← nI_add, Int32.add_sub_cancel, Nat.add_sub_cancel]
theorem pk_m1 (n : Nat) : nI (n + 1) + (-1) = nI n := by
  rw [← nI_1, Int32.add_assoc, show (1 : Int32) + (-1) = 0 from rfl, Int32.add_zero]
theorem pk_mul (a b : Nat) : nI a * nI b = nI (a * b) := (Int32.ofNat_mul a b).symm
theorem pk_div {a d : Nat} (ha : a < 2 ^ 31) (h0 : 0 < d) (hd : d < 2 ^ 31) : nI a / nI d = nI (a / d) := by
  apply Int32.toInt_inj.mp
  rw [lg_idiv_nonneg (by rw [nI_toInt ha]; omega) (by rw [nI_toInt hd]; omega), nI_toInt ha, nI_toInt hd, nI_toInt (Nat.lt_of_le_of_lt (Nat.div_le_self a d) ha)]
  first | rfl | exact (Int.natCast_ediv _ _).symm
theorem pk_rem {a d : Nat} (ha : a < 2 ^ 31) (h0 : 0 < d) (hd : d < 2 ^ 31) : nI a - nI a / nI d * nI d = nI (a % d) := by
  rw [pk_div ha h0 hd, pk_mul, pk_sub (Nat.div_mul_le_self a d)]
  exact congrArg nI (by have := Nat.div_add_mod' a d; omega)
theorem pk_ix (x : Int32) {n : Nat} (hn : n < 2 ^ 31) : x < 0 ∨ nI n ≤ x ∨ ∃ j : Nat, j < n ∧ x = nI j := by
  by_cases h : x < 0
  · exact Or.inl h
  · obtain ⟨j, hj, rfl⟩ := nI_of h
    by_cases h2 : j < n
    · exact Or.inr (Or.inr ⟨j, h2, rfl⟩)
    · exact Or.inr (Or.inl (nI_le (by omega) hj))
theorem pk_le {x y : Int32} {A B : Prop} (a b : Nat) (f : a ≤ b → A) (g : b < a → B) (hx : x = nI a := by rfl) (hy : y = nI b := by rfl) (ha : a < 2 ^ 31 := by omega) (hb : b < 2 ^ 31 := by omega) : (x ≤ y → A) ∧ (¬ x ≤ y → B) := by
  subst hx hy
  rw [nI_leI ha hb]
  exact ⟨f, fun z => g (by omega)⟩
theorem pk_lt {x y : Int32} {A B : Prop} (a b : Nat) (f : a < b → A) (g : b ≤ a → B) (hx : x = nI a := by rfl) (hy : y = nI b := by rfl) (ha : a < 2 ^ 31 := by omega) (hb : b < 2 ^ 31 := by omega) : (x < y → A) ∧ (¬ x < y → B) := by
  subst hx hy
  rw [nI_ltI ha hb]
  exact ⟨f, fun z => g (by omega)⟩
theorem pk_eq {x y : Int32} {A B : Prop} (a b : Nat) (f : a = b → A) (g : a ≠ b → B) (hx : x = nI a := by rfl) (hy : y = nI b := by rfl) (ha : a < 2 ^ 31 := by omega) (hb : b < 2 ^ 31 := by omega) : (x = y → A) ∧ (¬ x = y → B) := by
  subst hx hy
  rw [nI_eq ha hb]
  exact ⟨f, g⟩
theorem pk_in {x : Int32} (n N : Nat) (h : n < N) (hx : x = nI n := by rfl) (hN : N < 2 ^ 31 := by omega) : vp_in x N := by
  subst hx
  exact vp_in_nI h hN
theorem pk_cl {x : Int32} (n : Nat) (hx : x = nI n := by rfl) (h : n < 2 ^ 31 := by omega) : x.toNatClampNeg = n := by
  subst hx
  exact nI_clamp h
theorem pk_tn {n : Nat} (h : n < 2 ^ 32) : (nI n).toBitVec.toNat = n := Nat.mod_eq_of_lt h
theorem pk_and (x : Int32) {m : Int32} (k : Nat) (hm : m.toBitVec.toNat = 2 ^ k - 1) : x &&& m = nI (x.toBitVec.toNat % 2 ^ k) := by
  apply Int32.toBitVec_inj.mp
  apply BitVec.eq_of_toNat_eq
  rw [Int32.toBitVec_and, BitVec.toNat_and, hm, Nat.and_two_pow_sub_one_eq_mod]
  show _ = (BitVec.ofNat 32 _).toNat
  rw [BitVec.toNat_ofNat]
  exact (Nat.mod_eq_of_lt (Nat.lt_of_le_of_lt (Nat.mod_le _ _) x.toBitVec.isLt)).symm
theorem pk_andN {n : Nat} (h : n < 2 ^ 32) {m : Int32} (k : Nat) (hm : m.toBitVec.toNat = 2 ^ k - 1) : nI n &&& m = nI (n % 2 ^ k) := by
  rw [pk_and _ k hm, pk_tn h]
theorem pk_andE (x : Int32) {m : Int32} (k : Nat) (hm : m.toBitVec.toNat = 2 ^ k - 1) : ∃ j : Nat, j < 2 ^ k ∧ x &&& m = nI j := ⟨_, Nat.mod_lt _ (Nat.two_pow_pos k), pk_and x k hm⟩
theorem pk_andIn (x : Int32) {m : Int32} (k : Nat) (hm : m.toBitVec.toNat = 2 ^ k - 1) (hk : k ≤ 30) : vp_in (x &&& m) (2 ^ k) := by
  obtain ⟨j, hj, e⟩ := pk_andE x k hm
  rw [e]
  exact vp_in_nI hj (Nat.lt_of_le_of_lt (Nat.pow_le_pow_right (by decide) hk) (by decide))
theorem pk_nb (z : Int32) : narrow .byte (.int z.toInt8.toInt32) = .int z.toInt8.toInt32 := congrArg Value.int (by simp)
theorem pk_ns (z : Int32) : narrow .short (.int z.toInt16.toInt32) = .int z.toInt16.toInt32 := congrArg Value.int (by simp)
theorem pk_char (x : Int32) : (x.toUInt32 % 65536).toInt32 = nI (x.toBitVec.toNat % 65536) := by
  apply Int32.toBitVec_inj.mp
  apply BitVec.eq_of_toNat_eq
  rw [pk_tn (by omega)]
  show (x.toUInt32 % 65536).toNat = _
  rw [UInt32.toNat_mod]
  rfl
theorem pk_vb (z : Int32) : vp_nar .byte z.toInt8.toInt32 = z.toInt8.toInt32 := by rw [vp_nar_byte]; simp
theorem pk_vs (z : Int32) : vp_nar .short z.toInt16.toInt32 = z.toInt16.toInt32 := by rw [vp_nar_short]; simp
theorem fb_byte {n : Nat} (h : n < 128) : vp_nar .byte (nI n).toInt8.toInt32 = nI n := by
  rw [pk_vb]
  have : ∀ n, n < 128 → (nI n).toInt8.toInt32 = nI n := by decide +kernel
  exact this n h
theorem fb_byte' {n : Nat} (h : n < 128) : vp_nar .byte (nI n) = nI n := by
  have e := fb_byte h
  rw [pk_vb] at e
  rw [← e, pk_vb]
theorem fb_short {n : Nat} (h : n < 32768) : vp_nar .short (nI n).toInt16.toInt32 = nI n := by
  rw [pk_vs]
  exact lg_i2s_small (by rw [nI_toInt (by omega)]; omega) (by rw [nI_toInt (by omega)]; omega)
theorem fb_short' {n : Nat} (h : n < 32768) : vp_nar .short (nI n) = nI n := by
  have e := fb_short h
  rw [pk_vs] at e
  rw [← e, pk_vs]
theorem fb_up {n : Nat} (h : n < 128) : (nI n - 1).toInt8.toInt32 = nI n - 1 := by
  have : ∀ n, n < 128 → (nI n - 1).toInt8.toInt32 = nI n - 1 := by decide +kernel
  exact this n h
theorem fb_up' {n : Nat} (h : n < 128) : vp_nar .byte (nI n - 1) = nI n - 1 := by
  rw [← fb_up h, pk_vb]
theorem fb_upn {n : Nat} (h : n < 128) : (nI n - 1 < 0 ↔ n = 0) ∧ (0 ≤ nI n - 1 ↔ 0 < n) := by
  have : ∀ n, n < 128 → (nI n - 1 < 0 ↔ n = 0) ∧ (0 ≤ nI n - 1 ↔ 0 < n) := by decide +kernel
  exact this n h
theorem fb_ups (n : Nat) : nI (n + 1) - 1 = nI n := nI_pred n
theorem fb_if {c d : Prop} {A B : Prop} (e : c ↔ d) (f : d → A) (g : ¬ d → B) : (c → A) ∧ (¬ c → B) := ⟨fun h => f (e.mp h), fun h => g (fun z => h (e.mpr z))⟩
theorem fb_336 (n : Nat) : (336 : Int32) + nI n = nI (336 + n) := nI_add 336 n
theorem fb_s (f : Nat → Int32) (k : Nat) (x : Int32) (j : Nat) : upd f k x j = if j = k then x else f j := rfl
end
section
/-! forms as trees in preorder: P n is one more than the parent's place in the slot (0: the root), Z n the size of the part that begins at n -/
def fo_kf (P : Nat → Nat) (b i : Nat) : Nat → Nat → List Nat
  | 0, _ => []
  | d + 1, t => if P (b + t) = i + 1 then (b + t) :: fo_kf P b i d (t + 1) else fo_kf P b i d (t + 1)
def fo_kids (P : Nat → Nat) (b cnt i : Nat) : List Nat := fo_kf P b i cnt 0
theorem fo_kf_snoc (P : Nat → Nat) (b i : Nat) : ∀ d t, fo_kf P b i (d + 1) t = fo_kf P b i d t ++ (if P (b + (t + d)) = i + 1 then [b + (t + d)] else [])
  | 0, t => by
    show (if P (b + t) = i + 1 then (b + t) :: [] else []) = [] ++ (if P (b + (t + 0)) = i + 1 then [b + (t + 0)] else [])
    simp
  | d + 1, t => by
    show (if P (b + t) = i + 1 then (b + t) :: fo_kf P b i (d + 1) (t + 1) else fo_kf P b i (d + 1) (t + 1)) = (if P (b + t) = i + 1 then (b + t) :: fo_kf P b i d (t + 1) else fo_kf P b i d (t + 1)) ++ _
    rw [fo_kf_snoc P b i d (t + 1)]
    have e : t + 1 + d = t + (d + 1) := by omega
    rw [e]
    by_cases h : P (b + t) = i + 1
    · rw [if_pos h, if_pos h]; rfl
    · rw [if_neg h, if_neg h]
theorem fo_kf_len {P P' : Nat → Nat} {b b' i : Nat} : ∀ d t, (∀ j, t ≤ j → j < t + d → P' (b' + j) = P (b + j)) → (fo_kf P' b' i d t).length = (fo_kf P b i d t).length
  | 0, _, _ => rfl
  | d + 1, t, h => by
    have ih := fo_kf_len (P := P) (P' := P') (b := b) (b' := b') (i := i) d (t + 1) (fun j h1 h2 => h j (by omega) (by omega))
    show (if P' (b' + t) = i + 1 then (b' + t) :: fo_kf P' b' i d (t + 1) else fo_kf P' b' i d (t + 1)).length = (if P (b + t) = i + 1 then (b + t) :: fo_kf P b i d (t + 1) else fo_kf P b i d (t + 1)).length
    rw [h t (by omega) (by omega)]
    by_cases e : P (b + t) = i + 1
    · rw [if_pos e, if_pos e]; exact congrArg (· + 1) ih
    · rw [if_neg e, if_neg e]; exact ih
theorem fo_kf_le (P : Nat → Nat) (b i : Nat) : ∀ d t, (fo_kf P b i d t).length ≤ d
  | 0, _ => Nat.le_refl _
  | d + 1, t => by
    have ih := fo_kf_le P b i d (t + 1)
    show (if P (b + t) = i + 1 then (b + t) :: fo_kf P b i d (t + 1) else fo_kf P b i d (t + 1)).length ≤ d + 1
    by_cases e : P (b + t) = i + 1
    · rw [if_pos e]; exact Nat.succ_le_succ ih
    · rw [if_neg e]; omega
theorem fo_kf_skip (P : Nat → Nat) (b i : Nat) : ∀ e d t, (∀ j, t ≤ j → j < t + e → P (b + j) ≠ i + 1) → fo_kf P b i (e + d) t = fo_kf P b i d (t + e)
  | 0, d, t, _ => by rw [Nat.zero_add, Nat.add_zero]
  | e + 1, d, t, h => by
    have ih := fo_kf_skip P b i e d (t + 1) (fun j h1 h2 => h j (by omega) (by omega))
    have e1 : e + 1 + d = (e + d) + 1 := by omega
    rw [e1]
    show (if P (b + t) = i + 1 then (b + t) :: fo_kf P b i (e + d) (t + 1) else fo_kf P b i (e + d) (t + 1)) = _
    rw [if_neg (h t (by omega) (by omega)), ih]
    exact congrArg (fo_kf P b i d) (by omega)
theorem fo_kf_mem {P : Nat → Nat} {b i c : Nat} : ∀ d t, c ∈ fo_kf P b i d t → ∃ j, t ≤ j ∧ j < t + d ∧ c = b + j ∧ P (b + j) = i + 1
  | 0, _, h => by cases h
  | d + 1, t, h => by
    have h : c ∈ (if P (b + t) = i + 1 then (b + t) :: fo_kf P b i d (t + 1) else fo_kf P b i d (t + 1)) := h
    by_cases e : P (b + t) = i + 1
    · rw [if_pos e] at h
      rcases List.mem_cons.mp h with h | h
      · exact ⟨t, by omega, by omega, h, e⟩
      · obtain ⟨j, h1, h2, h3⟩ := fo_kf_mem d (t + 1) h
        exact ⟨j, by omega, by omega, h3⟩
    · rw [if_neg e] at h
      obtain ⟨j, h1, h2, h3⟩ := fo_kf_mem d (t + 1) h
      exact ⟨j, by omega, by omega, h3⟩
/-- the tree of a slot with cnt nodes; os: the lists that are still open, the innermost first -/
def fo_Tree (P Z : Nat → Nat) (b cnt : Nat) (os : List Nat) : Prop :=
  (∀ i, i < cnt → P (b + i) ≤ i ∧ (0 < i → 1 ≤ P (b + i))) ∧
  (∀ c, c < cnt → c ∉ os → 1 ≤ Z (b + c) ∧ c + Z (b + c) ≤ cnt ∧ (∀ j, j < cnt → ((c < j ∧ j < c + Z (b + c)) ↔ (c + 1 ≤ P (b + j) ∧ P (b + j) ≤ c + Z (b + c)))) ∧ (∀ o, o ∈ os → ¬ (c < o ∧ o < c + Z (b + c)))) ∧
  (∀ c, c ∈ os → c < cnt ∧ ∀ j, j < cnt → c < j → c + 1 ≤ P (b + j))
/-- the lists of os lie in each other -/
def fo_Os (P : Nat → Nat) : List Nat → Prop
  | [] => True
  | o :: r => (match r with | [] => P (336 + o) = 0 | o' :: _ => P (336 + o) = o' + 1 ∧ o' < o) ∧ fo_Os P r
theorem fo_Os_lt {P : Nat → Nat} : ∀ {os : List Nat} {o : Nat}, fo_Os P (o :: os) → ∀ q, q ∈ os → q < o
  | [], _, _, q, h => by cases h
  | o' :: r, o, h, q, hq => by
    obtain ⟨⟨_, h1⟩, h2⟩ := h
    rcases List.mem_cons.mp hq with e | e
    · omega
    · have := fo_Os_lt h2 q e
      omega
def fo_con (Z : Nat → Nat) (e : Nat) : Nat → List Nat → Prop
  | p, [] => p = e
  | p, c :: cs => c = p ∧ 1 ≤ Z p ∧ fo_con Z e (p + Z p) cs
def fo_sum (Z : Nat → Nat) : List Nat → Nat
  | [] => 0
  | c :: cs => Z c + fo_sum Z cs
theorem fo_con_sum {Z : Nat → Nat} {e : Nat} : ∀ {p : Nat} {l : List Nat}, fo_con Z e p l → p + fo_sum Z l = e
  | p, [], h => h
  | p, c :: cs, h => by
    obtain ⟨rfl, _, h⟩ := h
    have := fo_con_sum h
    show c + (Z c + fo_sum Z cs) = e
    omega
theorem fo_con_drop {Z : Nat → Nat} {e : Nat} : ∀ (k : Nat) {p : Nat} {l : List Nat}, fo_con Z e p l → ∃ p', fo_con Z e p' (l.drop k)
  | 0, p, l, h => ⟨p, h⟩
  | k + 1, p, [], h => ⟨p, h⟩
  | k + 1, p, c :: cs, h => fo_con_drop k h.2.2
theorem fo_tree_nest {P Z : Nat → Nat} {b cnt : Nat} (T : fo_Tree P Z b cnt []) {t q : Nat} (ht : t < cnt) (hq : t < q) (hqe : q < t + Z (b + t)) : q + Z (b + q) ≤ t + Z (b + t) := by
  obtain ⟨T1, T2, _⟩ := T
  obtain ⟨a1, a2, a3, _⟩ := T2 t ht (by simp)
  have hqc : q < cnt := by omega
  obtain ⟨b1, b2, b3, _⟩ := T2 q hqc (by simp)
  rcases Nat.lt_or_ge (t + Z (b + t)) (q + Z (b + q)) with h | h
  · have he : t + Z (b + t) < cnt := by omega
    have r1 := (b3 _ he).mp ⟨by omega, h⟩
    have r2 := a3 _ he
    have r3 := (T1 _ he).1
    omega
  · exact h
theorem fo_kids_step {P Z : Nat → Nat} {b cnt : Nat} (T : fo_Tree P Z b cnt []) {i t : Nat} (hi : i < cnt) (ht : i < t) (hte : t < i + Z (b + i)) (bd : ∀ q, i < q → q < t → q + Z (b + q) ≤ t) : fo_kf P b i (cnt - t) t = (b + t) :: fo_kf P b i (cnt - (t + Z (b + t))) (t + Z (b + t)) ∧ t + Z (b + t) ≤ i + Z (b + i) ∧ 1 ≤ Z (b + t) ∧ (∀ q, i < q → q < t + Z (b + t) → q + Z (b + q) ≤ t + Z (b + t)) := by
  have T' := T
  obtain ⟨T1, T2, _⟩ := T'
  obtain ⟨a1, a2, a3, _⟩ := T2 i hi (by simp)
  have htc : t < cnt := by omega
  obtain ⟨b1, b2, b3, _⟩ := T2 t htc (by simp)
  have n1 := fo_tree_nest T hi ht hte
  have hp : P (b + t) = i + 1 := by
    have r1 := (a3 t htc).mp ⟨ht, hte⟩
    have r2 := (T1 t htc).1
    rcases Nat.lt_or_ge (i + 1) (P (b + t)) with h | h
    · have hq := bd (P (b + t) - 1) (by omega) (by omega)
      have hqc : P (b + t) - 1 < cnt := by omega
      obtain ⟨c1, c2, c3, _⟩ := T2 (P (b + t) - 1) hqc (by simp)
      have := (c3 t htc).mpr ⟨by omega, by omega⟩
      omega
    · omega
  refine ⟨?_, n1, b1, ?_⟩
  · have e1 : cnt - t = (cnt - t - 1) + 1 := by omega
    rw [e1]
    show (if P (b + t) = i + 1 then (b + t) :: fo_kf P b i (cnt - t - 1) (t + 1) else _) = _
    rw [if_pos hp]
    have e2 : cnt - t - 1 = (Z (b + t) - 1) + (cnt - (t + Z (b + t))) := by omega
    rw [e2, fo_kf_skip P b i (Z (b + t) - 1) (cnt - (t + Z (b + t))) (t + 1)]
    · exact congrArg (fun z => (b + t) :: fo_kf P b i (cnt - (t + Z (b + t))) z) (by omega)
    · intro j h1 h2 h3
      have := (b3 j (by omega)).mp ⟨by omega, by omega⟩
      omega
  · intro q h1 h2
    rcases Nat.lt_or_ge q t with h | h
    · have := bd q h1 h
      omega
    · rcases Nat.lt_or_ge t q with h3 | h3
      · exact fo_tree_nest T htc h3 h2
      · have : q = t := by omega
        rw [this]
        exact Nat.le_refl _
theorem fo_kids_con' {P Z : Nat → Nat} {b cnt : Nat} (T : fo_Tree P Z b cnt []) {i : Nat} (hi : i < cnt) : ∀ (d t : Nat), i + Z (b + i) - t ≤ d → i < t → t ≤ i + Z (b + i) → (∀ q, i < q → q < t → q + Z (b + q) ≤ t) → fo_con Z (b + (i + Z (b + i))) (b + t) (fo_kf P b i (cnt - t) t) := by
  intro d
  induction d with
  | zero =>
    intro t h1 h2 h3 bd
    have e : t = i + Z (b + i) := by omega
    obtain ⟨T1, T2, _⟩ := T
    obtain ⟨a1, a2, a3, _⟩ := T2 i hi (by simp)
    have := fo_kf_skip P b i (cnt - t) 0 t (fun j g1 g2 g3 => by
      have := (a3 j (by omega)).mpr ⟨by omega, by omega⟩
      omega)
    rw [Nat.add_zero] at this
    rw [this, ← e]
    exact rfl
  | succ d ih =>
    intro t h1 h2 h3 bd
    rcases Nat.lt_or_ge t (i + Z (b + i)) with h | h
    · obtain ⟨g1, g2, g3, g4⟩ := fo_kids_step T hi h2 h bd
      rw [g1]
      refine ⟨rfl, g3, ?_⟩
      have := ih (t + Z (b + t)) (by omega) (by omega) g2 g4
      have e : b + t + Z (b + t) = b + (t + Z (b + t)) := by omega
      rw [e]
      exact this
    · exact ih t (by omega) h2 h3 bd
theorem fo_kids_con {P Z : Nat → Nat} {b cnt : Nat} (T : fo_Tree P Z b cnt []) {i : Nat} (hi : i < cnt) : fo_con Z (b + (i + Z (b + i))) (b + (i + 1)) (fo_kids P b cnt i) := by
  have T' := T
  obtain ⟨T1, T2, _⟩ := T'
  obtain ⟨a1, a2, a3, _⟩ := T2 i hi (by simp)
  have h := fo_kids_con' T hi (Z (b + i)) (i + 1) (by omega) (by omega) (by omega) (fun q h1 h2 => by omega)
  have e : cnt = (i + 1) + (cnt - (i + 1)) := by omega
  have s := fo_kf_skip P b i (i + 1) (cnt - (i + 1)) 0 (fun j h1 h2 h3 => by
    have := (T1 j (by omega)).1
    omega)
  rw [← e, Nat.zero_add] at s
  unfold fo_kids
  rw [s]
  exact h
end
section
/-! how the tree of the form grows -/
def fo_up (f : Nat → Nat) (k x : Nat) : Nat → Nat := fun j => if j = k then x else f j
theorem fo_us {f : Nat → Nat} {k x : Nat} : fo_up f k x k = x := if_pos rfl
theorem fo_un {f : Nat → Nat} {k x j : Nat} (h : j ≠ k) : fo_up f k x j = f j := if_neg h
def fo_q : List Nat → Nat
  | [] => 0
  | o :: _ => o + 1
theorem fo_par {P Z : Nat → Nat} {cnt : Nat} {os : List Nat} (T : fo_Tree P Z 336 cnt os) (S : fo_Os P os) (h0 : os = [] → cnt = 0) : fo_q os ≤ cnt ∧ (0 < cnt → 1 ≤ fo_q os) ∧ (∀ c, c ∈ os → c + 1 ≤ fo_q os) ∧ (∀ c, c < cnt → c ∉ os → ¬ (c + 1 ≤ fo_q os ∧ fo_q os ≤ c + Z (336 + c))) := by
  obtain ⟨T1, T2, T3⟩ := T
  cases os with
  | nil =>
    have := h0 rfl
    subst this
    exact ⟨Nat.le_refl _, fun h => absurd h (Nat.lt_irrefl _), fun c h => (by cases h), fun c h => absurd h (Nat.not_lt_zero _)⟩
  | cons o r =>
    have ho := (T3 o (List.mem_cons_self ..)).1
    refine ⟨ho, fun _ => Nat.succ_le_succ (Nat.zero_le _), fun c h => ?_, fun c h1 h2 h3 => ?_⟩
    · rcases List.mem_cons.mp h with e | e
      · rw [e]; exact Nat.le_refl _
      · exact Nat.succ_le_succ (Nat.le_of_lt (fo_Os_lt S c e))
    · obtain ⟨_, _, _, a4⟩ := T2 c h1 h2
      have hne : c ≠ o := fun e => h2 (by rw [e]; exact List.mem_cons_self ..)
      have h3 : c + 1 ≤ o + 1 ∧ o + 1 ≤ c + Z (336 + c) := h3
      exact a4 o (List.mem_cons_self ..) ⟨by omega, by omega⟩
theorem fo_Os_congr {P P' : Nat → Nat} : ∀ {os : List Nat}, (∀ o, o ∈ os → P' (336 + o) = P (336 + o)) → fo_Os P os → fo_Os P' os
  | [], _, _ => trivial
  | [o], h, S => ⟨by show P' (336 + o) = 0; rw [h o (List.mem_cons_self ..)]; exact S.1, trivial⟩
  | o :: o' :: r, h, S => ⟨by show P' (336 + o) = o' + 1 ∧ o' < o; rw [h o (List.mem_cons_self ..)]; exact S.1, fo_Os_congr (fun q hq => h q (List.mem_cons_of_mem _ hq)) S.2⟩
theorem fo_add_leaf {P Z : Nat → Nat} {cnt : Nat} {os : List Nat} (T : fo_Tree P Z 336 cnt os) (S : fo_Os P os) (h0 : os = [] → cnt = 0) : fo_Tree (fo_up P (336 + cnt) (fo_q os)) (fo_up Z (336 + cnt) 1) 336 (cnt + 1) os ∧ fo_Os (fo_up P (336 + cnt) (fo_q os)) os := by
  obtain ⟨q1, q2, q3, q4⟩ := fo_par T S h0
  obtain ⟨T1, T2, T3⟩ := T
  have hP : ∀ j, j < cnt → fo_up P (336 + cnt) (fo_q os) (336 + j) = P (336 + j) := fun j h => fo_un (by omega)
  have hZ : ∀ j, j < cnt → fo_up Z (336 + cnt) 1 (336 + j) = Z (336 + j) := fun j h => fo_un (by omega)
  have hPn : fo_up P (336 + cnt) (fo_q os) (336 + cnt) = fo_q os := fo_us
  have hZn : fo_up Z (336 + cnt) 1 (336 + cnt) = 1 := fo_us
  refine ⟨⟨?_, ?_, ?_⟩, fo_Os_congr (fun o ho => hP o (T3 o ho).1) S⟩
  · intro i hi
    rcases Nat.lt_or_ge i cnt with h | h
    · rw [hP i h]; exact T1 i h
    · have e : i = cnt := by omega
      rw [e, hPn]; exact ⟨q1, q2⟩
  · intro c hc ho
    rcases Nat.lt_or_ge c cnt with h | h
    · obtain ⟨a1, a2, a3, a4⟩ := T2 c h ho
      rw [hZ c h]
      refine ⟨a1, by omega, fun j hj => ?_, a4⟩
      rcases Nat.lt_or_ge j cnt with g | g
      · rw [hP j g]; exact a3 j g
      · have e : j = cnt := by omega
        have := q4 c h ho
        rw [e, hPn]
        exact ⟨fun z => by omega, fun z => absurd z this⟩
    · have e : c = cnt := by omega
      subst e
      rw [hZn]
      refine ⟨Nat.le_refl _, Nat.le_refl _, fun j hj => ⟨fun z => by omega, fun z => ?_⟩, fun o ho' z => by omega⟩
      rcases Nat.lt_or_ge j c with g | g
      · rw [hP j g] at z
        have := (T1 j g).1
        omega
      · have e : j = c := by omega
        rw [e, hPn] at z
        omega
  · intro c hc
    obtain ⟨a1, a2⟩ := T3 c hc
    refine ⟨by omega, fun j hj hcj => ?_⟩
    rcases Nat.lt_or_ge j cnt with g | g
    · rw [hP j g]; exact a2 j g hcj
    · have e : j = cnt := by omega
      rw [e, hPn]; exact q3 c hc
theorem fo_add_list {P Z : Nat → Nat} {cnt : Nat} {os : List Nat} (T : fo_Tree P Z 336 cnt os) (S : fo_Os P os) (h0 : os = [] → cnt = 0) : fo_Tree (fo_up P (336 + cnt) (fo_q os)) (fo_up Z (336 + cnt) 1) 336 (cnt + 1) (cnt :: os) ∧ fo_Os (fo_up P (336 + cnt) (fo_q os)) (cnt :: os) := by
  have hn : cnt ∉ os := fun h => Nat.lt_irrefl _ (T.2.2 cnt h).1
  have hlt : ∀ o, o ∈ os → o < cnt := fun o h => (T.2.2 o h).1
  obtain ⟨⟨A1, A2, A3⟩, A4⟩ := fo_add_leaf T S h0
  have hPn : fo_up P (336 + cnt) (fo_q os) (336 + cnt) = fo_q os := fo_us
  refine ⟨⟨A1, ?_, ?_⟩, ?_, A4⟩
  · intro c hc ho
    have h1 : c ≠ cnt := fun e => ho (by rw [e]; exact List.mem_cons_self ..)
    have h2 : c ∉ os := fun e => ho (List.mem_cons_of_mem _ e)
    obtain ⟨a1, a2, a3, a4⟩ := A2 c hc h2
    obtain ⟨b1, b2, b3, b4⟩ := T.2.1 c (by omega) h2
    refine ⟨a1, a2, a3, fun o ho' z => ?_⟩
    rcases List.mem_cons.mp ho' with e | e
    · rw [fo_un (by omega)] at z
      omega
    · exact a4 o e z
  · intro c hc
    rcases List.mem_cons.mp hc with e | e
    · exact ⟨by omega, fun j h1 h2 => by omega⟩
    · exact A3 c e
  · cases os with
    | nil => exact hPn
    | cons o r => exact ⟨hPn, hlt o (List.mem_cons_self ..)⟩
theorem fo_close {P Z : Nat → Nat} {cnt o : Nat} {r : List Nat} (T : fo_Tree P Z 336 cnt (o :: r)) (S : fo_Os P (o :: r)) : fo_Tree P (fo_up Z (336 + o) (cnt - o)) 336 cnt r ∧ fo_Os P r := by
  obtain ⟨T1, T2, T3⟩ := T
  obtain ⟨t1, t2⟩ := T3 o (List.mem_cons_self ..)
  have hZn : fo_up Z (336 + o) (cnt - o) (336 + o) = cnt - o := fo_us
  refine ⟨⟨T1, ?_, ?_⟩, S.2⟩
  · intro c hc ho
    rcases Nat.lt_or_ge c o with h | h
    · have h2 : c ∉ o :: r := fun z => by
        rcases List.mem_cons.mp z with e | e
        · omega
        · exact ho e
      obtain ⟨a1, a2, a3, a4⟩ := T2 c hc h2
      rw [fo_un (by omega)]
      exact ⟨a1, a2, a3, fun q hq => a4 q (List.mem_cons_of_mem _ hq)⟩
    · rcases Nat.lt_or_ge o c with h3 | h3
      · have h2 : c ∉ o :: r := fun z => by
          rcases List.mem_cons.mp z with e | e
          · omega
          · exact ho e
        obtain ⟨a1, a2, a3, a4⟩ := T2 c hc h2
        rw [fo_un (by omega)]
        exact ⟨a1, a2, a3, fun q hq => a4 q (List.mem_cons_of_mem _ hq)⟩
      · have e : c = o := by omega
        subst e
        rw [hZn]
        refine ⟨by omega, by omega, fun j hj => ⟨fun z => ?_, fun z => ?_⟩, fun q hq z => ?_⟩
        · have := t2 j hj z.1
          have := (T1 j hj).1
          omega
        · have := (T1 j hj).1
          omega
        · have := fo_Os_lt S q hq
          omega
  · intro c hc
    exact T3 c (List.mem_cons_of_mem _ hc)
theorem fo_tree_congr {P P' Z Z' : Nat → Nat} {b b' cnt : Nat} {os : List Nat} (hP : ∀ i, i < cnt → P' (b' + i) = P (b + i)) (hZ : ∀ i, i < cnt → Z' (b' + i) = Z (b + i)) (T : fo_Tree P Z b cnt os) : fo_Tree P' Z' b' cnt os := by
  obtain ⟨T1, T2, T3⟩ := T
  refine ⟨fun i hi => by rw [hP i hi]; exact T1 i hi, fun c hc ho => ?_, fun c hc => ⟨(T3 c hc).1, fun j hj h => by rw [hP j hj]; exact (T3 c hc).2 j hj h⟩⟩
  obtain ⟨a1, a2, a3, a4⟩ := T2 c hc ho
  rw [hZ c hc]
  exact ⟨a1, a2, fun j hj => by rw [hP j hj]; exact a3 j hj, a4⟩
/-- the innermost BLOCK of the label, from place p - 1 on outwards -/
def fo_ba (P O A : Nat → Nat) (b lab : Nat) : Nat → Nat → Option Nat
  | 0, _ => none
  | _ + 1, 0 => none
  | f + 1, i + 1 => if O (b + i) = 11 ∧ A (b + i) = lab then some i else fo_ba P O A b lab f (P (b + i))
theorem fo_ba_congr {P P' O O' A A' : Nat → Nat} {b b' lab : Nat} : ∀ (f p : Nat), (∀ i, i < p → P' (b' + i) = P (b + i) ∧ O' (b' + i) = O (b + i) ∧ (O (b + i) = 11 → A' (b' + i) = A (b + i))) → (∀ i, i < p → P (b + i) ≤ i) → fo_ba P' O' A' b' lab f p = fo_ba P O A b lab f p
  | 0, _, _, _ => rfl
  | _ + 1, 0, _, _ => rfl
  | f + 1, i + 1, h, hp => by
    obtain ⟨h1, h2, h3⟩ := h i (by omega)
    have := hp i (by omega)
    show (if O' (b' + i) = 11 ∧ A' (b' + i) = lab then some i else fo_ba P' O' A' b' lab f (P' (b' + i))) = (if O (b + i) = 11 ∧ A (b + i) = lab then some i else fo_ba P O A b lab f (P (b + i)))
    have ih := fo_ba_congr (P := P) (P' := P') (O := O) (O' := O') (A := A) (A' := A') (b := b) (b' := b') (lab := lab) f (P (b + i)) (fun j hj => h j (by omega)) (fun j hj => hp j (by omega))
    rw [h1, h2, ih]
    by_cases e : O (b + i) = 11
    · rw [h3 e]
    · rw [if_neg (fun z => e z.1), if_neg (fun z => e z.1)]
/-- the same among the lists that are open -/
def fo_fd (O A : Nat → Nat) (lab : Nat) : List Nat → Option Nat
  | [] => none
  | o :: r => if O (336 + o) = 11 ∧ A (336 + o) = lab then some o else fo_fd O A lab r
theorem fo_fd_ba {P O A : Nat → Nat} {lab : Nat} : ∀ (f : Nat) (os : List Nat), os.length < f → fo_Os P os → fo_ba P O A 336 lab f (fo_q os) = fo_fd O A lab os
  | 0, _, h, _ => by omega
  | f + 1, [], _, _ => rfl
  | f + 1, o :: r, h, S => by
    have hr : P (336 + o) = fo_q r := by
      cases r with
      | nil => exact S.1
      | cons o' r' => exact S.1.1
    have ih := fo_fd_ba (P := P) (O := O) (A := A) (lab := lab) f r (by simp only [List.length_cons] at h; omega) S.2
    show (if O (336 + o) = 11 ∧ A (336 + o) = lab then some o else fo_ba P O A 336 lab f (P (336 + o))) = (if O (336 + o) = 11 ∧ A (336 + o) = lab then some o else fo_fd O A lab r)
    rw [hr, ih]
theorem fo_fd_mem {O A : Nat → Nat} {lab t : Nat} : ∀ {os : List Nat}, fo_fd O A lab os = some t → t ∈ os ∧ O (336 + t) = 11 ∧ A (336 + t) = lab
  | [], h => by cases h
  | o :: r, h => by
    have h : (if O (336 + o) = 11 ∧ A (336 + o) = lab then some o else fo_fd O A lab r) = some t := h
    by_cases e : O (336 + o) = 11 ∧ A (336 + o) = lab
    · rw [if_pos e] at h
      cases h
      exact ⟨List.mem_cons_self .., e⟩
    · rw [if_neg e] at h
      obtain ⟨a, b⟩ := fo_fd_mem h
      exact ⟨List.mem_cons_of_mem _ a, b⟩
def fo_OL (a : Nat → Int32) : List Nat → Prop
  | [] => True
  | o :: r => a r.length = nI (336 + o) ∧ fo_OL a r
theorem fo_OL_upd {a : Nat → Int32} {x : Int32} : ∀ {os : List Nat} {k : Nat}, os.length ≤ k → fo_OL a os → fo_OL (upd a k x) os
  | [], _, _, _ => trivial
  | o :: r, k, hk, h => by
    have hk : r.length + 1 ≤ k := hk
    exact ⟨by rw [pk_un (by omega)]; exact h.1, fo_OL_upd (by omega) h.2⟩
end
section
/-! the relation between the two states -/
def fo_least (o : Nat) : Nat := if o < 6 ∨ o = 14 ∨ o = 25 then 2 else if o = 6 then 3 else if o = 7 ∨ o = 11 ∨ o = 23 ∨ o = 26 then 0 else 1
def fo_most (o : Nat) : Nat := if o = 7 ∨ o = 9 ∨ o = 10 ∨ o = 11 ∨ o = 13 ∨ (15 ≤ o ∧ o ≤ 18) then 56 else if o = 23 then 3 else fo_least o
def fo_ma (o : Nat) : Prop := o = 8 ∨ o = 9 ∨ o = 11 ∨ o = 12 ∨ (16 ≤ o ∧ o ≤ 21) ∨ (23 ≤ o ∧ o ≤ 26)
def fo_ar (T o a : Nat) : Prop := (o = 8 → a < 12) ∧ (o = 9 ∨ o = 26 → 8 ≤ a ∧ a < 12) ∧ (o = 11 ∨ o = 12 ∨ o = 18 ∨ o = 19 → a < 8) ∧ (o = 16 ∨ o = 17 ∨ o = 20 ∨ o = 21 → 1 ≤ a ∧ a ≤ T) ∧ (o = 23 → a < 6) ∧ (o = 24 ∨ o = 25 → a < 4)
theorem fo_ar_mono {T T' o a : Nat} (h : T ≤ T') (g : fo_ar T o a) : fo_ar T' o a := by
  obtain ⟨h1, h2, h3, h4, h5, h6⟩ := g
  exact ⟨h1, h2, h3, fun z => ⟨(h4 z).1, Nat.le_trans (h4 z).2 h⟩, h5, h6⟩
/-- a node as both sides keep it -/
def fo_N (xo xa xb xk yt yo ya yb yu yv : Nat → Int32) (P O A : Nat → Nat) (T b cnt i : Nat) : Prop :=
  xo (b + i) = nI (O (b + i)) ∧ O (b + i) ≤ 28 ∧ xk (b + i) = nI (fo_kids P b cnt i).length ∧ yu (b + i) = nI (P (b + i)) - 1 ∧
  (O (b + i) = 27 → yt (b + i) = 1 ∧ yv (b + i) = xa (b + i)) ∧
  (O (b + i) = 28 → yt (b + i) = 2 ∧ yv (b + i) = xa (b + i) ∧ xa (b + i) = nI (A (b + i)) ∧ A (b + i) < 12) ∧
  (O (b + i) ≤ 26 → yt (b + i) = 0 ∧ yo (b + i) = nI (O (b + i)) ∧ fo_ar T (O (b + i)) (A (b + i)) ∧
    (fo_ma (O (b + i)) → xa (b + i) = nI (A (b + i)) ∧ ya (b + i) = nI (A (b + i))) ∧
    (16 ≤ O (b + i) → O (b + i) ≤ 18 → ∃ w, w < 12 ∧ xb (b + i) = nI w ∧ yb (b + i) = nI w) ∧
    (O (b + i) = 12 → ∃ t, t ≤ i ∧ xb (b + i) = nI (i - t) ∧ fo_ba P O A b (A (b + i)) 14 (i + 1) = some t)) ∧
  (∀ j, j + 1 = P (b + i) → O (b + j) ≤ 26)
def fo_Slot (xo xa xb xk xz yt yo ya yb yu yv : Nat → Int32) (P Z O A : Nat → Nat) (T b cnt : Nat) (os : List Nat) : Prop :=
  cnt ≤ 56 ∧ fo_Tree P Z b cnt os ∧ (∀ i, i < cnt → i ∉ os → xz (b + i) = nI (Z (b + i))) ∧ ∀ i, i < cnt → fo_N xo xa xb xk yt yo ya yb yu yv P O A T b cnt i ∧ (i ∉ os → O (b + i) ≤ 26 → fo_least (O (b + i)) ≤ (fo_kids P b cnt i).length)
/-- an array of bytes -/
def rl_Fb (a : Nat → Int32) : Prop := ∀ j, vp_nar .byte (a j) = a j
theorem rl_Fb_upd {a : Nat → Int32} {k : Nat} {x : Int32} (h : rl_Fb a) (hx : vp_nar .byte x = x) : rl_Fb (upd a k x) := by
  intro j
  by_cases e : j = k
  · rw [e, pk_us]; exact hx
  · rw [pk_un e]; exact h j
/-- the tables of nodes -/
def rl_T (xo xa xb xk xz xs xp xl : Nat → Int32) (oc : Int32) (yt yo ya yb yu yv ys yp : Nat → Int32) (ct op : Int32) (T : Nat) : Prop :=
  ∃ (P Z O A C ps : Nat → Nat) (os : List Nat),
    (∀ s, s < 6 → fo_Slot xo xa xb xk xz yt yo ya yb yu yv P Z O A T (56 * s) (C s) [] ∧ xs s = nI (C s) ∧ ys s = nI (C s) ∧ xp s = nI (ps s) ∧ yp s = nI (ps s) ∧ ps s ≤ 3) ∧
    fo_Slot xo xa xb xk xz yt yo ya yb yu yv P Z O A T 336 (C 6) os ∧ fo_Os P os ∧ os.length ≤ 12 ∧ fo_OL xl os ∧ oc = nI os.length ∧ op = nI (fo_q os) - 1 ∧ xs 6 = nI (C 6) ∧ ct = nI (C 6) ∧ (∀ o, o ∈ os → O (336 + o) ≤ 26) ∧ rl_Fb yt ∧ rl_Fb yo ∧ rl_Fb ya ∧ rl_Fb yb ∧ rl_Fb yu
def rl_Ty (T : Nat) (par : Nat → Int32) : Prop := 9 ≤ T ∧ T ≤ 15 ∧ ∃ p : Nat → Nat, ∀ t, t < 16 → par t = nI (p t) ∧ (1 ≤ t → p t < t)
def m_kb (a : Nat) (v : Int32) : Int32 := if a = 0 then v &&& 1 else if a = 1 then v.toInt8.toInt32 else if a = 2 then v.toInt16.toInt32 else v &&& 65535
/-- the arrays hold what they can hold -/
def rl_Ce (ce : Nat → Int32) : Prop := ∀ a i, a < 4 → i < 16 → m_kb a (ce (16 * a + i)) = ce (16 * a + i)
def rl_Sp (sv sh g h : Nat → Int32) : Prop := ∀ j, j < 4 → (sh j = 0 ∨ sh j = 1) ∧ h (8 + j) = sh j ∧ (sh j ≠ 0 → g (8 + j) = sv j)
def i_Rel (_ : Nat) (u : SX) (v : SY) : Prop := match u, v with
  | (f_openCount, f_typeCount, f_printedCount, f_depthLimit, f_fuelLimit, f_lastStatus, f_lastValue, f_lastError, f_lastDatum, f_lastPlace, f_beatsUsed, f_frameCount, f_mode, f_currentNode, f_currentEnv, f_result, f_calls, f_inForce, f_exitTarget, f_exitValue, f_exitType, f_exitPlace, a_nodeOp, a_nodeA, a_nodeB, a_nodeParts, a_nodeSize, a_slotSize, a_slotParams, a_openLists, a_typeParent, a_elements, a_locals, a_specialValue, a_specialHas, a_printed, a_frames), (h_depth, h_fuel, h_count, h_open, h_types, h_sp, h_ret, h_xTarget, h_xVal, h_xType, h_xPlace, h_have, h_exiting, h_running, h_outcome, h_value, h_error, h_datum, h_place, h_beats, h_printed, c_sort, c_op, c_na, c_nb, c_up, c_val, c_size, c_params, c_parent, c_global, c_cells, c_locals, c_has, c_node, c_got, c_handle, c_pTarget, c_pPlace, c_act, c_mode, c_bVar, c_pType, c_v0, c_v1, c_v2, c_last, c_bVal, c_pVal, c_out) => ∃ T d F : Nat,
    (f_typeCount = nI T ∧ h_types = nI T ∧ rl_Ty T a_typeParent ∧ c_parent = a_typeParent) ∧
    (f_depthLimit = nI d ∧ h_depth = nI d ∧ 1 ≤ d ∧ d ≤ 5) ∧ (f_fuelLimit = nI F ∧ h_fuel = nI F ∧ 1 ≤ F ∧ F ≤ 200) ∧
    (h_value = f_lastValue ∧ h_error = f_lastError ∧ h_datum = f_lastDatum ∧ h_place = f_lastPlace ∧ h_beats = f_beatsUsed) ∧
    (h_printed = f_printedCount ∧ c_out = a_printed ∧ c_cells = a_elements ∧ c_locals = a_locals ∧ rl_Ce a_elements) ∧
    rl_Sp a_specialValue a_specialHas c_global c_has ∧
    rl_T a_nodeOp a_nodeA a_nodeB a_nodeParts a_nodeSize a_slotSize a_slotParams a_openLists f_openCount c_sort c_op c_na c_nb c_up c_val c_size c_params h_count h_open T
theorem i_up {k : Nat} {u : SX} {v : SY} (h : i_Rel k u v) : i_Rel (k + 4) u v := h
theorem i_vc_value {k : Nat} {u : SX} {v : SY} (I : i_Rel k u v) (hk : k + 4 ≤ 2050) : wpX_value (fun r => wpY_value (fun r' => r' = r ∧ i_Rel (k + 4) u v) v) u := by
  obtain ⟨f_openCount, f_typeCount, f_printedCount, f_depthLimit, f_fuelLimit, f_lastStatus, f_lastValue, f_lastError, f_lastDatum, f_lastPlace, f_beatsUsed, f_frameCount, f_mode, f_currentNode, f_currentEnv, f_result, f_calls, f_inForce, f_exitTarget, f_exitValue, f_exitType, f_exitPlace, a_nodeOp, a_nodeA, a_nodeB, a_nodeParts, a_nodeSize, a_slotSize, a_slotParams, a_openLists, a_typeParent, a_elements, a_locals, a_specialValue, a_specialHas, a_printed, a_frames⟩ := u
  obtain ⟨h_depth, h_fuel, h_count, h_open, h_types, h_sp, h_ret, h_xTarget, h_xVal, h_xType, h_xPlace, h_have, h_exiting, h_running, h_outcome, h_value, h_error, h_datum, h_place, h_beats, h_printed, c_sort, c_op, c_na, c_nb, c_up, c_val, c_size, c_params, c_parent, c_global, c_cells, c_locals, c_has, c_node, c_got, c_handle, c_pTarget, c_pPlace, c_act, c_mode, c_bVar, c_pType, c_v0, c_v1, c_v2, c_last, c_bVal, c_pVal, c_out⟩ := v
  have I' := I
  obtain ⟨T, d, F, _, _, _, ⟨h, _⟩, _⟩ := I'
  exact ⟨h, I⟩
theorem i_vc_error {k : Nat} {u : SX} {v : SY} (I : i_Rel k u v) (hk : k + 4 ≤ 2050) : wpX_error (fun r => wpY_error (fun r' => r' = r ∧ i_Rel (k + 4) u v) v) u := by
  obtain ⟨f_openCount, f_typeCount, f_printedCount, f_depthLimit, f_fuelLimit, f_lastStatus, f_lastValue, f_lastError, f_lastDatum, f_lastPlace, f_beatsUsed, f_frameCount, f_mode, f_currentNode, f_currentEnv, f_result, f_calls, f_inForce, f_exitTarget, f_exitValue, f_exitType, f_exitPlace, a_nodeOp, a_nodeA, a_nodeB, a_nodeParts, a_nodeSize, a_slotSize, a_slotParams, a_openLists, a_typeParent, a_elements, a_locals, a_specialValue, a_specialHas, a_printed, a_frames⟩ := u
  obtain ⟨h_depth, h_fuel, h_count, h_open, h_types, h_sp, h_ret, h_xTarget, h_xVal, h_xType, h_xPlace, h_have, h_exiting, h_running, h_outcome, h_value, h_error, h_datum, h_place, h_beats, h_printed, c_sort, c_op, c_na, c_nb, c_up, c_val, c_size, c_params, c_parent, c_global, c_cells, c_locals, c_has, c_node, c_got, c_handle, c_pTarget, c_pPlace, c_act, c_mode, c_bVar, c_pType, c_v0, c_v1, c_v2, c_last, c_bVal, c_pVal, c_out⟩ := v
  have I' := I
  obtain ⟨T, d, F, _, _, _, ⟨_, h, _⟩, _⟩ := I'
  exact ⟨h, I⟩
theorem i_vc_datum {k : Nat} {u : SX} {v : SY} (I : i_Rel k u v) (hk : k + 4 ≤ 2050) : wpX_datum (fun r => wpY_datum (fun r' => r' = r ∧ i_Rel (k + 4) u v) v) u := by
  obtain ⟨f_openCount, f_typeCount, f_printedCount, f_depthLimit, f_fuelLimit, f_lastStatus, f_lastValue, f_lastError, f_lastDatum, f_lastPlace, f_beatsUsed, f_frameCount, f_mode, f_currentNode, f_currentEnv, f_result, f_calls, f_inForce, f_exitTarget, f_exitValue, f_exitType, f_exitPlace, a_nodeOp, a_nodeA, a_nodeB, a_nodeParts, a_nodeSize, a_slotSize, a_slotParams, a_openLists, a_typeParent, a_elements, a_locals, a_specialValue, a_specialHas, a_printed, a_frames⟩ := u
  obtain ⟨h_depth, h_fuel, h_count, h_open, h_types, h_sp, h_ret, h_xTarget, h_xVal, h_xType, h_xPlace, h_have, h_exiting, h_running, h_outcome, h_value, h_error, h_datum, h_place, h_beats, h_printed, c_sort, c_op, c_na, c_nb, c_up, c_val, c_size, c_params, c_parent, c_global, c_cells, c_locals, c_has, c_node, c_got, c_handle, c_pTarget, c_pPlace, c_act, c_mode, c_bVar, c_pType, c_v0, c_v1, c_v2, c_last, c_bVal, c_pVal, c_out⟩ := v
  have I' := I
  obtain ⟨T, d, F, _, _, _, ⟨_, _, h, _⟩, _⟩ := I'
  exact ⟨h, I⟩
theorem i_vc_place {k : Nat} {u : SX} {v : SY} (I : i_Rel k u v) (hk : k + 4 ≤ 2050) : wpX_place (fun r => wpY_place (fun r' => r' = r ∧ i_Rel (k + 4) u v) v) u := by
  obtain ⟨f_openCount, f_typeCount, f_printedCount, f_depthLimit, f_fuelLimit, f_lastStatus, f_lastValue, f_lastError, f_lastDatum, f_lastPlace, f_beatsUsed, f_frameCount, f_mode, f_currentNode, f_currentEnv, f_result, f_calls, f_inForce, f_exitTarget, f_exitValue, f_exitType, f_exitPlace, a_nodeOp, a_nodeA, a_nodeB, a_nodeParts, a_nodeSize, a_slotSize, a_slotParams, a_openLists, a_typeParent, a_elements, a_locals, a_specialValue, a_specialHas, a_printed, a_frames⟩ := u
  obtain ⟨h_depth, h_fuel, h_count, h_open, h_types, h_sp, h_ret, h_xTarget, h_xVal, h_xType, h_xPlace, h_have, h_exiting, h_running, h_outcome, h_value, h_error, h_datum, h_place, h_beats, h_printed, c_sort, c_op, c_na, c_nb, c_up, c_val, c_size, c_params, c_parent, c_global, c_cells, c_locals, c_has, c_node, c_got, c_handle, c_pTarget, c_pPlace, c_act, c_mode, c_bVar, c_pType, c_v0, c_v1, c_v2, c_last, c_bVal, c_pVal, c_out⟩ := v
  have I' := I
  obtain ⟨T, d, F, _, _, _, ⟨_, _, _, h, _⟩, _⟩ := I'
  exact ⟨h, I⟩
theorem i_vc_beats {k : Nat} {u : SX} {v : SY} (I : i_Rel k u v) (hk : k + 4 ≤ 2050) : wpX_beats (fun r => wpY_beats (fun r' => r' = r ∧ i_Rel (k + 4) u v) v) u := by
  obtain ⟨f_openCount, f_typeCount, f_printedCount, f_depthLimit, f_fuelLimit, f_lastStatus, f_lastValue, f_lastError, f_lastDatum, f_lastPlace, f_beatsUsed, f_frameCount, f_mode, f_currentNode, f_currentEnv, f_result, f_calls, f_inForce, f_exitTarget, f_exitValue, f_exitType, f_exitPlace, a_nodeOp, a_nodeA, a_nodeB, a_nodeParts, a_nodeSize, a_slotSize, a_slotParams, a_openLists, a_typeParent, a_elements, a_locals, a_specialValue, a_specialHas, a_printed, a_frames⟩ := u
  obtain ⟨h_depth, h_fuel, h_count, h_open, h_types, h_sp, h_ret, h_xTarget, h_xVal, h_xType, h_xPlace, h_have, h_exiting, h_running, h_outcome, h_value, h_error, h_datum, h_place, h_beats, h_printed, c_sort, c_op, c_na, c_nb, c_up, c_val, c_size, c_params, c_parent, c_global, c_cells, c_locals, c_has, c_node, c_got, c_handle, c_pTarget, c_pPlace, c_act, c_mode, c_bVar, c_pType, c_v0, c_v1, c_v2, c_last, c_bVal, c_pVal, c_out⟩ := v
  have I' := I
  obtain ⟨T, d, F, _, _, _, ⟨_, _, _, _, h⟩, _⟩ := I'
  exact ⟨h, I⟩
theorem i_vc_output {k : Nat} {u : SX} {v : SY} (I : i_Rel k u v) (hk : k + 4 ≤ 2050) (v1 : Int32) : wpX_output (fun r => wpY_output (fun r' => r' = r ∧ i_Rel (k + 4) u v) v v1) u v1 := by
  obtain ⟨f_openCount, f_typeCount, f_printedCount, f_depthLimit, f_fuelLimit, f_lastStatus, f_lastValue, f_lastError, f_lastDatum, f_lastPlace, f_beatsUsed, f_frameCount, f_mode, f_currentNode, f_currentEnv, f_result, f_calls, f_inForce, f_exitTarget, f_exitValue, f_exitType, f_exitPlace, a_nodeOp, a_nodeA, a_nodeB, a_nodeParts, a_nodeSize, a_slotSize, a_slotParams, a_openLists, a_typeParent, a_elements, a_locals, a_specialValue, a_specialHas, a_printed, a_frames⟩ := u
  obtain ⟨h_depth, h_fuel, h_count, h_open, h_types, h_sp, h_ret, h_xTarget, h_xVal, h_xType, h_xPlace, h_have, h_exiting, h_running, h_outcome, h_value, h_error, h_datum, h_place, h_beats, h_printed, c_sort, c_op, c_na, c_nb, c_up, c_val, c_size, c_params, c_parent, c_global, c_cells, c_locals, c_has, c_node, c_got, c_handle, c_pTarget, c_pPlace, c_act, c_mode, c_bVar, c_pType, c_v0, c_v1, c_v2, c_last, c_bVal, c_pVal, c_out⟩ := v
  have I' := I
  obtain ⟨T, d, F, _, _, _, _, ⟨h1, h2, _⟩, _⟩ := I'
  subst h1 h2
  by_cases a1 : v1 = -1
  · exact br_t a1 (br_t a1 ⟨rfl, I⟩)
  · refine br_f a1 ?_
    by_cases a2 : v1 < 0
    · exact br_t a2 (br_t rfl (br_f a1 (br_t a2 ⟨rfl, I⟩)))
    · refine br_f a2 ?_
      by_cases a3 : (24 : Int32) ≤ v1
      · exact br_t a3 (br_t rfl (br_f a1 (br_f a2 (br_t a3 ⟨rfl, I⟩))))
      · refine br_f a3 (br_f (by decide) ?_)
        have hi : vp_in v1 24 := by
          obtain ⟨j, hj, rfl⟩ := nI_of a2
          exact vp_in_nI (by
            rcases Nat.lt_or_ge j 24 with g | g
            · exact g
            · exact absurd (nI_le (a := 24) g hj) a3) (by decide)
        by_cases a4 : h_printed ≤ v1
        · exact br_t a4 (br_f a1 (br_f a2 (br_f a3 (br_t a4 ⟨rfl, I⟩))))
        · exact br_f a4 ⟨hi, br_f a1 (br_f a2 (br_f a3 (br_f a4 ⟨hi, rfl, I⟩)))⟩
theorem fb_lt {x : Int32} (a b : Nat) (ha : ¬ x < nI a) (hb : ¬ nI b ≤ x) (hb2 : b < 2 ^ 31) (ha2 : a ≤ b) : ∃ j, j < b - a ∧ x = nI (a + j) := by
  have h0 : ¬ x < 0 := fun z => ha (Int32.lt_of_lt_of_le z (nI_pos' (by omega)))
  obtain ⟨j, hj, rfl⟩ := nI_of h0
  rw [nI_ltI hj (by omega)] at ha
  rw [nI_leI (by omega) hj] at hb
  exact ⟨j - a, by omega, congrArg nI (by omega)⟩
theorem i_vc_special {k : Nat} {u : SX} {v : SY} (I : i_Rel k u v) (hk : k + 4 ≤ 2050) (v1 : Int32) : wpX_special (fun r => wpY_special (fun r' => r' = r ∧ i_Rel (k + 4) u v) v v1) u v1 := by
  obtain ⟨f_openCount, f_typeCount, f_printedCount, f_depthLimit, f_fuelLimit, f_lastStatus, f_lastValue, f_lastError, f_lastDatum, f_lastPlace, f_beatsUsed, f_frameCount, f_mode, f_currentNode, f_currentEnv, f_result, f_calls, f_inForce, f_exitTarget, f_exitValue, f_exitType, f_exitPlace, a_nodeOp, a_nodeA, a_nodeB, a_nodeParts, a_nodeSize, a_slotSize, a_slotParams, a_openLists, a_typeParent, a_elements, a_locals, a_specialValue, a_specialHas, a_printed, a_frames⟩ := u
  obtain ⟨h_depth, h_fuel, h_count, h_open, h_types, h_sp, h_ret, h_xTarget, h_xVal, h_xType, h_xPlace, h_have, h_exiting, h_running, h_outcome, h_value, h_error, h_datum, h_place, h_beats, h_printed, c_sort, c_op, c_na, c_nb, c_up, c_val, c_size, c_params, c_parent, c_global, c_cells, c_locals, c_has, c_node, c_got, c_handle, c_pTarget, c_pPlace, c_act, c_mode, c_bVar, c_pType, c_v0, c_v1, c_v2, c_last, c_bVal, c_pVal, c_out⟩ := v
  have I' := I
  obtain ⟨T, d, F, _, _, _, _, _, hS, _⟩ := I'
  by_cases a1 : v1 < 8
  · exact br_t a1 (br_t rfl (br_t a1 ⟨rfl, I⟩))
  · refine br_f a1 ?_
    by_cases a2 : (12 : Int32) ≤ v1
    · have a3 : (11 : Int32) < v1 := Int32.lt_of_lt_of_le (by decide) a2
      exact br_t a2 (br_t rfl (br_f a1 (br_t a3 ⟨rfl, I⟩)))
    · obtain ⟨j, hj, rfl⟩ := fb_lt 8 12 a1 a2 (by decide) (by decide)
      have a3 : ¬ (11 : Int32) < nI (8 + j) := nI_nlt (b := 8 + j) (a := 11) (by omega) (by decide)
      have e : nI (8 + j) - 8 = nI j := by
        have := pk_sub (a := 8 + j) (b := 8) (by omega)
        rw [Nat.add_sub_cancel_left] at this
        exact this
      have i4 : vp_in (nI (8 + j) - 8) 4 := by rw [e]; exact vp_in_nI hj (by decide)
      have c4 : (nI (8 + j) - 8).toNatClampNeg = j := by rw [e]; exact nI_clamp (by omega)
      have i12 : vp_in (nI (8 + j)) 12 := vp_in_nI (by omega) (by decide)
      have c12 : (nI (8 + j)).toNatClampNeg = 8 + j := nI_clamp (by omega)
      obtain ⟨s1, s2, s3⟩ := hS j hj
      refine br_f a2 (br_f (by decide) ⟨i4, ?_⟩)
      rw [c4]
      by_cases z : a_specialHas j = 0
      · refine br_t z (br_f a1 (br_f a3 ⟨i12, ?_⟩))
        rw [c12]
        exact br_t (s2.trans z) ⟨rfl, I⟩
      · refine br_f z ⟨i4, br_f a1 (br_f a3 ⟨i12, ?_⟩)⟩
        rw [c12]
        exact br_f (fun q => z (s2.symm.trans q)) ⟨i12, congrArg Int32.toInt64 (s3 z), I⟩
theorem i_vc_cell {k : Nat} {u : SX} {v : SY} (I : i_Rel k u v) (hk : k + 4 ≤ 2050) (v1 : Int32) (v2 : Int32) : wpX_cell (fun r => wpY_cell (fun r' => r' = r ∧ i_Rel (k + 4) u v) v v1 v2) u v1 v2 := by
  obtain ⟨f_openCount, f_typeCount, f_printedCount, f_depthLimit, f_fuelLimit, f_lastStatus, f_lastValue, f_lastError, f_lastDatum, f_lastPlace, f_beatsUsed, f_frameCount, f_mode, f_currentNode, f_currentEnv, f_result, f_calls, f_inForce, f_exitTarget, f_exitValue, f_exitType, f_exitPlace, a_nodeOp, a_nodeA, a_nodeB, a_nodeParts, a_nodeSize, a_slotSize, a_slotParams, a_openLists, a_typeParent, a_elements, a_locals, a_specialValue, a_specialHas, a_printed, a_frames⟩ := u
  obtain ⟨h_depth, h_fuel, h_count, h_open, h_types, h_sp, h_ret, h_xTarget, h_xVal, h_xType, h_xPlace, h_have, h_exiting, h_running, h_outcome, h_value, h_error, h_datum, h_place, h_beats, h_printed, c_sort, c_op, c_na, c_nb, c_up, c_val, c_size, c_params, c_parent, c_global, c_cells, c_locals, c_has, c_node, c_got, c_handle, c_pTarget, c_pPlace, c_act, c_mode, c_bVar, c_pType, c_v0, c_v1, c_v2, c_last, c_bVal, c_pVal, c_out⟩ := v
  have I' := I
  obtain ⟨T, d, F, _, _, _, _, ⟨_, _, h3, _⟩, _⟩ := I'
  subst h3
  by_cases a1 : v1 < 0
  · exact br_t a1 (br_t rfl (br_t a1 ⟨rfl, I⟩))
  · refine br_f a1 ?_
    by_cases a2 : (4 : Int32) ≤ v1
    · have a3 : (3 : Int32) < v1 := Int32.lt_of_lt_of_le (by decide) a2
      exact br_t a2 (br_t rfl (br_f a1 (br_t a3 ⟨rfl, I⟩)))
    · obtain ⟨i, hi, rfl⟩ := fb_lt 0 4 a1 a2 (by decide) (by decide)
      rw [Nat.zero_add] at *
      have a3 : ¬ (3 : Int32) < nI i := nI_nlt (b := i) (a := 3) (by omega) (by decide)
      refine br_f a2 (br_f (by decide) ?_)
      by_cases b1 : v2 < 0
      · exact br_t b1 (br_t rfl (br_f a1 (br_f a3 (br_t b1 ⟨rfl, I⟩))))
      · refine br_f b1 ?_
        by_cases b2 : (16 : Int32) ≤ v2
        · have b3 : (15 : Int32) < v2 := Int32.lt_of_lt_of_le (by decide) b2
          exact br_t b2 (br_t rfl (br_f a1 (br_f a3 (br_f b1 (br_t b3 ⟨rfl, I⟩)))))
        · obtain ⟨j, hj, rfl⟩ := fb_lt 0 16 b1 b2 (by decide) (by decide)
          rw [Nat.zero_add] at *
          have b3 : ¬ (15 : Int32) < nI j := nI_nlt (b := j) (a := 15) (by omega) (by decide)
          have e1 : (nI i * 16) + nI j = nI (16 * i + j) := by
            rw [show (16 : Int32) = nI 16 from rfl, pk_mul, nI_add, Nat.mul_comm]
          have e2 : (16 * nI i) + nI j = nI (16 * i + j) := by
            rw [show (16 : Int32) = nI 16 from rfl, pk_mul, nI_add]
          refine br_f b2 (br_f (by decide) ⟨?_, br_f a1 (br_f a3 (br_f b1 (br_f b3 ⟨?_, ?_, I⟩)))⟩)
          · rw [e1]; exact vp_in_nI (by omega) (by decide)
          · rw [e2]; exact vp_in_nI (by omega) (by decide)
          · rw [e1, e2]
theorem i_vc_type {k : Nat} {u : SX} {v : SY} (I : i_Rel k u v) (hk : k + 4 ≤ 2050) (v1 : Int32) : wpX_type (fun r u' => wpY_type (fun r' v' => r' = r ∧ i_Rel (k + 4) u' v') v v1) u v1 := by
  obtain ⟨f_openCount, f_typeCount, f_printedCount, f_depthLimit, f_fuelLimit, f_lastStatus, f_lastValue, f_lastError, f_lastDatum, f_lastPlace, f_beatsUsed, f_frameCount, f_mode, f_currentNode, f_currentEnv, f_result, f_calls, f_inForce, f_exitTarget, f_exitValue, f_exitType, f_exitPlace, a_nodeOp, a_nodeA, a_nodeB, a_nodeParts, a_nodeSize, a_slotSize, a_slotParams, a_openLists, a_typeParent, a_elements, a_locals, a_specialValue, a_specialHas, a_printed, a_frames⟩ := u
  obtain ⟨h_depth, h_fuel, h_count, h_open, h_types, h_sp, h_ret, h_xTarget, h_xVal, h_xType, h_xPlace, h_have, h_exiting, h_running, h_outcome, h_value, h_error, h_datum, h_place, h_beats, h_printed, c_sort, c_op, c_na, c_nb, c_up, c_val, c_size, c_params, c_parent, c_global, c_cells, c_locals, c_has, c_node, c_got, c_handle, c_pTarget, c_pPlace, c_act, c_mode, c_bVar, c_pType, c_v0, c_v1, c_v2, c_last, c_bVal, c_pVal, c_out⟩ := v
  have I' := I
  obtain ⟨T, d, F, ⟨e1, e2, ⟨t1, t2, p, hp⟩, e4⟩, R2, R3, R4, R5, R6, R7⟩ := I'
  subst e1 e2 e4
  by_cases a1 : v1 < 1
  · exact br_t a1 (br_t rfl (br_t a1 ⟨rfl, I⟩))
  · refine br_f a1 ?_
    by_cases a2 : nI T < v1
    · exact br_t a2 (br_t rfl (br_f a1 (br_t a2 ⟨rfl, I⟩)))
    · refine br_f a2 (br_f (by decide) ?_)
      have hv : ∃ j, j ≤ T ∧ v1 = nI j ∧ 1 ≤ j := by
        have h0 : ¬ v1 < 0 := fun z => a1 (Int32.lt_trans z (by decide))
        obtain ⟨j, hj, rfl⟩ := nI_of h0
        rw [nI_ltI (by omega) hj] at a2
        refine ⟨j, by omega, rfl, ?_⟩
        rcases Nat.eq_zero_or_pos j with z | z
        · subst z
          exact absurd (by decide) a1
        · exact z
      obtain ⟨j, j1, rfl, j2⟩ := hv
      rcases Nat.lt_or_ge T 15 with h | h
      · have b1 : nI T < 15 := nI_lt (b := 15) h (by decide)
        have b2 : ¬ nI T = 15 := fun z => by
          rw [show (15 : Int32) = nI 15 from rfl, nI_eq (by omega) (by decide)] at z
          omega
        refine br_t b1 (nm_r (nI_1 T) ⟨vp_in_nI (by omega) (by decide), ?_⟩)
        rw [nI_clamp (by omega)]
        refine nm_e (br_f a1 (br_f a2 (br_f b2 (nm_r (nI_1 T) ⟨vp_in_nI (by omega) (by decide), ?_⟩))))
        rw [nI_clamp (by omega)]
        refine nm_e ⟨rfl, T + 1, d, F, ⟨rfl, rfl, ⟨by omega, by omega, fo_up p (T + 1) j, fun t ht => ?_⟩, rfl⟩, R2, R3, R4, R5, R6, ?_⟩
        · by_cases e : t = T + 1
          · rw [e, pk_us, fo_us]; exact ⟨rfl, fun _ => by omega⟩
          · rw [pk_un e, fo_un e]; exact hp t ht
        · obtain ⟨P, Z, O, A, C, ps, os, F1, F2, F3⟩ := R7
          have mono : ∀ {b cnt i : Nat}, fo_N a_nodeOp a_nodeA a_nodeB a_nodeParts c_sort c_op c_na c_nb c_up c_val P O A T b cnt i → fo_N a_nodeOp a_nodeA a_nodeB a_nodeParts c_sort c_op c_na c_nb c_up c_val P O A (T + 1) b cnt i := by
            intro b cnt i N
            obtain ⟨n1, n2, n3, n4, n5, n6, n7, n8⟩ := N
            exact ⟨n1, n2, n3, n4, n5, n6, fun z => ⟨(n7 z).1, (n7 z).2.1, fo_ar_mono (Nat.le_succ T) (n7 z).2.2.1, (n7 z).2.2.2⟩, n8⟩
          exact ⟨P, Z, O, A, C, ps, os, fun s hs => ⟨⟨(F1 s hs).1.1, (F1 s hs).1.2.1, (F1 s hs).1.2.2.1, fun i hi => ⟨mono ((F1 s hs).1.2.2.2 i hi).1, ((F1 s hs).1.2.2.2 i hi).2⟩⟩, (F1 s hs).2⟩, ⟨F2.1, F2.2.1, F2.2.2.1, fun i hi => ⟨mono (F2.2.2.2 i hi).1, (F2.2.2.2 i hi).2⟩⟩, F3⟩
      · have e : T = 15 := by omega
        subst e
        exact br_f (by decide) (br_f a1 (br_f a2 (br_t rfl ⟨rfl, I⟩)))
end
section
/-! parts counted, room, adding a node: both sides' walks and the tables' step -/
theorem fo_27 {o : Nat} {Q : Nat → Prop} (ho : o ≤ 26) (h0 : Q 0) (h1 : Q 1) (h2 : Q 2) (h3 : Q 3) (h4 : Q 4) (h5 : Q 5) (h6 : Q 6) (h7 : Q 7) (h8 : Q 8) (h9 : Q 9) (h10 : Q 10) (h11 : Q 11) (h12 : Q 12) (h13 : Q 13) (h14 : Q 14) (h15 : Q 15) (h16 : Q 16) (h17 : Q 17) (h18 : Q 18) (h19 : Q 19) (h20 : Q 20) (h21 : Q 21) (h22 : Q 22) (h23 : Q 23) (h24 : Q 24) (h25 : Q 25) (h26 : Q 26) : Q o := by
  have h : o = 0 ∨ o = 1 ∨ o = 2 ∨ o = 3 ∨ o = 4 ∨ o = 5 ∨ o = 6 ∨ o = 7 ∨ o = 8 ∨ o = 9 ∨ o = 10 ∨ o = 11 ∨ o = 12 ∨ o = 13 ∨ o = 14 ∨ o = 15 ∨ o = 16 ∨ o = 17 ∨ o = 18 ∨ o = 19 ∨ o = 20 ∨ o = 21 ∨ o = 22 ∨ o = 23 ∨ o = 24 ∨ o = 25 ∨ o = 26 := by omega
  rcases h with rfl | rfl | rfl | rfl | rfl | rfl | rfl | rfl | rfl | rfl | rfl | rfl | rfl | rfl | rfl | rfl | rfl | rfl | rfl | rfl | rfl | rfl | rfl | rfl | rfl | rfl | rfl <;> assumption
theorem xl_least {post : Int32 → Prop} {o : Nat} (ho : o ≤ 26) : post (nI (fo_least o)) → wpX_leastParts post (nI o) := by
  refine fo_27 (Q := fun o => post (nI (fo_least o)) → wpX_leastParts post (nI o)) ho ?_ ?_ ?_ ?_ ?_ ?_ ?_ ?_ ?_ ?_ ?_ ?_ ?_ ?_ ?_ ?_ ?_ ?_ ?_ ?_ ?_ ?_ ?_ ?_ ?_ ?_ ?_
  all_goals
    intro hp
    unfold wpX_leastParts
    repeat' first | exact hp | refine br_t (by decide) ?_ | refine br_f (by decide) ?_
theorem xl_most {post : Int32 → Prop} {o : Nat} (ho : o ≤ 26) : post (nI (fo_most o)) → wpX_mostParts post (nI o) := by
  refine fo_27 (Q := fun o => post (nI (fo_most o)) → wpX_mostParts post (nI o)) ho ?_ ?_ ?_ ?_ ?_ ?_ ?_ ?_ ?_ ?_ ?_ ?_ ?_ ?_ ?_ ?_ ?_ ?_ ?_ ?_ ?_ ?_ ?_ ?_ ?_ ?_ ?_
  all_goals
    intro hp
    unfold wpX_mostParts wX_mostParts_89 wpX_leastParts
    repeat' first | exact hp | refine br_t (by decide) ?_ | refine br_f (by decide) ?_
section
variable {f_openCount f_typeCount f_printedCount f_depthLimit f_fuelLimit f_lastStatus f_lastValue f_lastError f_lastDatum f_lastPlace f_beatsUsed f_frameCount f_mode f_currentNode f_currentEnv f_result f_calls f_inForce f_exitTarget f_exitValue f_exitType f_exitPlace : Int32} {a_nodeOp a_nodeA a_nodeB a_nodeParts a_nodeSize a_slotSize a_slotParams a_openLists a_typeParent a_elements a_locals a_specialValue a_specialHas a_printed a_frames : Nat → Int32} {h_depth h_fuel h_count h_open h_types h_sp h_ret h_xTarget h_xVal h_xType h_xPlace h_have h_exiting h_running h_outcome h_value h_error h_datum h_place h_beats h_printed : Int32} {c_sort c_op c_na c_nb c_up c_val c_size c_params c_parent c_global c_cells c_locals c_has c_node c_got c_handle c_pTarget c_pPlace c_act c_mode c_bVar c_pType c_v0 c_v1 c_v2 c_last c_bVal c_pVal c_out : Nat → Int32}
theorem yl_least {post : Int32 → Prop} {o : Nat} (ho : o ≤ 26) : post (nI (fo_least o)) → wpY_least post (h_depth, h_fuel, h_count, h_open, h_types, h_sp, h_ret, h_xTarget, h_xVal, h_xType, h_xPlace, h_have, h_exiting, h_running, h_outcome, h_value, h_error, h_datum, h_place, h_beats, h_printed, c_sort, c_op, c_na, c_nb, c_up, c_val, c_size, c_params, c_parent, c_global, c_cells, c_locals, c_has, c_node, c_got, c_handle, c_pTarget, c_pPlace, c_act, c_mode, c_bVar, c_pType, c_v0, c_v1, c_v2, c_last, c_bVal, c_pVal, c_out) (nI o) := by
  refine fo_27 (Q := fun o => post (nI (fo_least o)) → wpY_least post (h_depth, h_fuel, h_count, h_open, h_types, h_sp, h_ret, h_xTarget, h_xVal, h_xType, h_xPlace, h_have, h_exiting, h_running, h_outcome, h_value, h_error, h_datum, h_place, h_beats, h_printed, c_sort, c_op, c_na, c_nb, c_up, c_val, c_size, c_params, c_parent, c_global, c_cells, c_locals, c_has, c_node, c_got, c_handle, c_pTarget, c_pPlace, c_act, c_mode, c_bVar, c_pType, c_v0, c_v1, c_v2, c_last, c_bVal, c_pVal, c_out) (nI o)) ho ?_ ?_ ?_ ?_ ?_ ?_ ?_ ?_ ?_ ?_ ?_ ?_ ?_ ?_ ?_ ?_ ?_ ?_ ?_ ?_ ?_ ?_ ?_ ?_ ?_ ?_ ?_
  all_goals
    intro hp
    unfold wpY_least
    dsimp only
    repeat' first | exact hp | refine br_t (by decide) ?_ | refine br_f (by decide) ?_
theorem yl_most {post : Int32 → Prop} {o : Nat} (ho : o ≤ 26) : post (nI (fo_most o)) → wpY_most post (h_depth, h_fuel, h_count, h_open, h_types, h_sp, h_ret, h_xTarget, h_xVal, h_xType, h_xPlace, h_have, h_exiting, h_running, h_outcome, h_value, h_error, h_datum, h_place, h_beats, h_printed, c_sort, c_op, c_na, c_nb, c_up, c_val, c_size, c_params, c_parent, c_global, c_cells, c_locals, c_has, c_node, c_got, c_handle, c_pTarget, c_pPlace, c_act, c_mode, c_bVar, c_pType, c_v0, c_v1, c_v2, c_last, c_bVal, c_pVal, c_out) (nI o) := by
  refine fo_27 (Q := fun o => post (nI (fo_most o)) → wpY_most post (h_depth, h_fuel, h_count, h_open, h_types, h_sp, h_ret, h_xTarget, h_xVal, h_xType, h_xPlace, h_have, h_exiting, h_running, h_outcome, h_value, h_error, h_datum, h_place, h_beats, h_printed, c_sort, c_op, c_na, c_nb, c_up, c_val, c_size, c_params, c_parent, c_global, c_cells, c_locals, c_has, c_node, c_got, c_handle, c_pTarget, c_pPlace, c_act, c_mode, c_bVar, c_pType, c_v0, c_v1, c_v2, c_last, c_bVal, c_pVal, c_out) (nI o)) ho ?_ ?_ ?_ ?_ ?_ ?_ ?_ ?_ ?_ ?_ ?_ ?_ ?_ ?_ ?_ ?_ ?_ ?_ ?_ ?_ ?_ ?_ ?_ ?_ ?_ ?_ ?_
  all_goals
    intro hp
    unfold wpY_most wY_most_45 wpY_least
    dsimp only
    repeat' first | exact hp | refine br_t (by decide) ?_ | refine br_f (by decide) ?_
theorem fb_upe {p i : Nat} (hp : p < 1000) (hi : i < 1000) : nI p - 1 = nI i ↔ p = i + 1 := by
  constructor
  · intro h
    have h2 : nI p = nI (i + 1) := by rw [← nI_1, ← h, Int32.sub_add_cancel]
    exact (nI_eq (by omega) (by omega)).mp h2
  · intro h
    rw [h]; exact nI_pred i
theorem fb_sb (b i : Nat) : nI (b + i) - nI b = nI i := by
  have := pk_sub (a := b + i) (b := b) (by omega)
  rw [Nat.add_sub_cancel_left] at this
  exact this
theorem yl_parts13 {post : Int32 → Prop} {P : Nat → Nat} {b i cnt : Nat} (hb : b + 56 ≤ 392) (hc : cnt ≤ 56) (hi : i < 56) (hu : ∀ j, j < cnt → c_up (b + j) = nI (P (b + j)) - 1 ∧ P (b + j) ≤ j) (hL : ∀ q : Int32 → Prop, q (nI cnt) → wpY_length q (h_depth, h_fuel, h_count, h_open, h_types, h_sp, h_ret, h_xTarget, h_xVal, h_xType, h_xPlace, h_have, h_exiting, h_running, h_outcome, h_value, h_error, h_datum, h_place, h_beats, h_printed, c_sort, c_op, c_na, c_nb, c_up, c_val, c_size, c_params, c_parent, c_global, c_cells, c_locals, c_has, c_node, c_got, c_handle, c_pTarget, c_pPlace, c_act, c_mode, c_bVar, c_pType, c_v0, c_v1, c_v2, c_last, c_bVal, c_pVal, c_out) (nI (b + i))) : ∀ (d t k n : Nat), t + d = cnt → d < n → post (nI (k + (fo_kf P b i d t).length)) → wY_parts_13 post (nI (b + i)) (nI b) h_depth h_fuel h_count h_open h_types h_sp h_ret h_xTarget h_xVal h_xType h_xPlace h_have h_exiting h_running h_outcome h_value h_error h_datum h_place h_beats h_printed c_sort c_op c_na c_nb c_up c_val c_size c_params c_parent c_global c_cells c_locals c_has c_node c_got c_handle c_pTarget c_pPlace c_act c_mode c_bVar c_pType c_v0 c_v1 c_v2 c_last c_bVal c_pVal c_out n (nI k) (nI t)
  | _, _, _, 0, _, h, _ => by omega
  | 0, t, k, n + 1, ht, _, hp => by
    rw [wY_parts_13]
    refine hL _ ?_
    exact br_t (nI_le (by omega) (by omega)) hp
  | d + 1, t, k, n + 1, ht, hn, hp => by
    obtain ⟨u1, u2⟩ := hu t (by omega)
    rw [wY_parts_13]
    refine hL _ ?_
    refine br_f (nI_ge (by omega) (by omega)) ?_
    rw [nI_add]
    refine ⟨vp_in_nI (by omega) (by decide), ?_⟩
    rw [nI_clamp (by omega), u1, fb_sb]
    refine fb_if (fb_upe (by omega) (by omega)) (fun e => ?_) (fun e => ?_)
    · refine nm_r (nI_1 k) (nm_r (nI_1 t) (yl_parts13 hb hc hi hu hL d (t + 1) (k + 1) n (by omega) (by omega) ?_))
      have hp : post (nI (k + (if P (b + t) = i + 1 then (b + t) :: fo_kf P b i d (t + 1) else fo_kf P b i d (t + 1)).length)) := hp
      rw [if_pos e, List.length_cons] at hp
      have e2 : k + 1 + (fo_kf P b i d (t + 1)).length = k + ((fo_kf P b i d (t + 1)).length + 1) := by omega
      rw [e2]; exact hp
    · refine nm_r (nI_1 t) (yl_parts13 hb hc hi hu hL d (t + 1) k n (by omega) (by omega) ?_)
      have hp : post (nI (k + (if P (b + t) = i + 1 then (b + t) :: fo_kf P b i d (t + 1) else fo_kf P b i d (t + 1)).length)) := hp
      rw [if_neg e] at hp
      exact hp
def fo_nx (l : List Nat) (j : Nat) : Int32 := match l[j]? with
  | some c => nI c
  | none => -1
theorem yl_part14 {post : Int32 → Prop} {P : Nat → Nat} {b i cnt j : Nat} (hb : b + 56 ≤ 392) (hc : cnt ≤ 56) (hi : i < 56) (hj : j < 1000) (hu : ∀ j, j < cnt → c_up (b + j) = nI (P (b + j)) - 1 ∧ P (b + j) ≤ j) (hL : ∀ q : Int32 → Prop, q (nI cnt) → wpY_length q (h_depth, h_fuel, h_count, h_open, h_types, h_sp, h_ret, h_xTarget, h_xVal, h_xType, h_xPlace, h_have, h_exiting, h_running, h_outcome, h_value, h_error, h_datum, h_place, h_beats, h_printed, c_sort, c_op, c_na, c_nb, c_up, c_val, c_size, c_params, c_parent, c_global, c_cells, c_locals, c_has, c_node, c_got, c_handle, c_pTarget, c_pPlace, c_act, c_mode, c_bVar, c_pType, c_v0, c_v1, c_v2, c_last, c_bVal, c_pVal, c_out) (nI (b + i))) : ∀ (d t k n : Nat), t + d = cnt → d < n → k ≤ j → post (fo_nx (fo_kf P b i d t) (j - k)) → wY_part_14 post (nI (b + i)) (nI j) (nI b) h_depth h_fuel h_count h_open h_types h_sp h_ret h_xTarget h_xVal h_xType h_xPlace h_have h_exiting h_running h_outcome h_value h_error h_datum h_place h_beats h_printed c_sort c_op c_na c_nb c_up c_val c_size c_params c_parent c_global c_cells c_locals c_has c_node c_got c_handle c_pTarget c_pPlace c_act c_mode c_bVar c_pType c_v0 c_v1 c_v2 c_last c_bVal c_pVal c_out n (nI k) (nI t)
  | _, _, _, 0, _, h, _, _ => by omega
  | 0, t, k, n + 1, ht, _, hk, hp => by
    rw [wY_part_14]
    refine hL _ ?_
    exact br_t (nI_le (by omega) (by omega)) hp
  | d + 1, t, k, n + 1, ht, hn, hk, hp => by
    obtain ⟨u1, u2⟩ := hu t (by omega)
    have hp : post (fo_nx (if P (b + t) = i + 1 then (b + t) :: fo_kf P b i d (t + 1) else fo_kf P b i d (t + 1)) (j - k)) := hp
    rw [wY_part_14]
    refine hL _ ?_
    refine br_f (nI_ge (by omega) (by omega)) ?_
    rw [nI_add]
    refine ⟨vp_in_nI (by omega) (by decide), ?_⟩
    rw [nI_clamp (by omega), u1, fb_sb]
    refine fb_if (fb_upe (by omega) (by omega)) (fun e => ?_) (fun e => ?_)
    · rw [if_pos e] at hp
      refine fb_if (nI_eq (by omega) (by omega)) (fun g => ?_) (fun g => ?_)
      · subst g
        rw [Nat.sub_self] at hp
        exact hp
      · refine nm_r (nI_1 k) (nm_r (nI_1 t) (yl_part14 hb hc hi hj hu hL d (t + 1) (k + 1) n (by omega) (by omega) (by omega) ?_))
        have e2 : j - k = (j - (k + 1)) + 1 := by omega
        rw [e2] at hp
        exact hp
    · rw [if_neg e] at hp
      exact nm_r (nI_1 t) (yl_part14 hb hc hi hj hu hL d (t + 1) k n (by omega) (by omega) (by omega) hp)
theorem fb_base {b i : Nat} (s : Nat) (hs : b = 56 * s) (hb : b + 56 ≤ 392) (hi : i < 56) : (nI (b + i) / 56) * 56 = nI b ∧ nI (b + i) / 56 = nI s := by
  have e : nI (b + i) / 56 = nI s := by
    have := pk_div (a := b + i) (d := 56) (by omega) (by decide) (by decide)
    rw [show (b + i) / 56 = s from by omega] at this
    exact this
  refine ⟨?_, e⟩
  rw [e, show (56 : Int32) = nI 56 from rfl, pk_mul, hs, Nat.mul_comm]
theorem yl_parts {post : Int32 → Prop} {P : Nat → Nat} {b i cnt : Nat} (s : Nat) (hs : b = 56 * s) (hb : b + 56 ≤ 392) (hc : cnt ≤ 56) (hi : i < 56) (hu : ∀ j, j < cnt → c_up (b + j) = nI (P (b + j)) - 1 ∧ P (b + j) ≤ j) (hL : ∀ q : Int32 → Prop, q (nI cnt) → wpY_length q (h_depth, h_fuel, h_count, h_open, h_types, h_sp, h_ret, h_xTarget, h_xVal, h_xType, h_xPlace, h_have, h_exiting, h_running, h_outcome, h_value, h_error, h_datum, h_place, h_beats, h_printed, c_sort, c_op, c_na, c_nb, c_up, c_val, c_size, c_params, c_parent, c_global, c_cells, c_locals, c_has, c_node, c_got, c_handle, c_pTarget, c_pPlace, c_act, c_mode, c_bVar, c_pType, c_v0, c_v1, c_v2, c_last, c_bVal, c_pVal, c_out) (nI (b + i))) (hp : post (nI (fo_kids P b cnt i).length)) : wpY_parts post (h_depth, h_fuel, h_count, h_open, h_types, h_sp, h_ret, h_xTarget, h_xVal, h_xType, h_xPlace, h_have, h_exiting, h_running, h_outcome, h_value, h_error, h_datum, h_place, h_beats, h_printed, c_sort, c_op, c_na, c_nb, c_up, c_val, c_size, c_params, c_parent, c_global, c_cells, c_locals, c_has, c_node, c_got, c_handle, c_pTarget, c_pPlace, c_act, c_mode, c_bVar, c_pType, c_v0, c_v1, c_v2, c_last, c_bVal, c_pVal, c_out) (nI (b + i)) := by
  refine ⟨by decide, nm_r (fb_base s hs hb hi).1 ⟨cnt + 1, ?_⟩⟩
  refine yl_parts13 hb hc hi hu hL cnt 0 0 (cnt + 1) (by omega) (by omega) ?_
  rw [Nat.zero_add]; exact hp
theorem yl_part {post : Int32 → Prop} {P : Nat → Nat} {b i cnt j : Nat} (s : Nat) (hs : b = 56 * s) (hb : b + 56 ≤ 392) (hc : cnt ≤ 56) (hi : i < 56) (hj : j < 1000) (hu : ∀ j, j < cnt → c_up (b + j) = nI (P (b + j)) - 1 ∧ P (b + j) ≤ j) (hL : ∀ q : Int32 → Prop, q (nI cnt) → wpY_length q (h_depth, h_fuel, h_count, h_open, h_types, h_sp, h_ret, h_xTarget, h_xVal, h_xType, h_xPlace, h_have, h_exiting, h_running, h_outcome, h_value, h_error, h_datum, h_place, h_beats, h_printed, c_sort, c_op, c_na, c_nb, c_up, c_val, c_size, c_params, c_parent, c_global, c_cells, c_locals, c_has, c_node, c_got, c_handle, c_pTarget, c_pPlace, c_act, c_mode, c_bVar, c_pType, c_v0, c_v1, c_v2, c_last, c_bVal, c_pVal, c_out) (nI (b + i))) (hp : post (fo_nx (fo_kids P b cnt i) j)) : wpY_part post (h_depth, h_fuel, h_count, h_open, h_types, h_sp, h_ret, h_xTarget, h_xVal, h_xType, h_xPlace, h_have, h_exiting, h_running, h_outcome, h_value, h_error, h_datum, h_place, h_beats, h_printed, c_sort, c_op, c_na, c_nb, c_up, c_val, c_size, c_params, c_parent, c_global, c_cells, c_locals, c_has, c_node, c_got, c_handle, c_pTarget, c_pPlace, c_act, c_mode, c_bVar, c_pType, c_v0, c_v1, c_v2, c_last, c_bVal, c_pVal, c_out) (nI (b + i)) (nI j) := by
  refine ⟨by decide, nm_r (fb_base s hs hb hi).1 ⟨cnt + 1, ?_⟩⟩
  exact yl_part14 hb hc hi hj hu hL cnt 0 0 (cnt + 1) (by omega) (by omega) (by omega) hp
theorem yl_lenF {q : Int32 → Prop} {i cnt : Nat} (hi : i < 56) (hc : h_count = nI cnt) (h : q (nI cnt)) : wpY_length q (h_depth, h_fuel, h_count, h_open, h_types, h_sp, h_ret, h_xTarget, h_xVal, h_xType, h_xPlace, h_have, h_exiting, h_running, h_outcome, h_value, h_error, h_datum, h_place, h_beats, h_printed, c_sort, c_op, c_na, c_nb, c_up, c_val, c_size, c_params, c_parent, c_global, c_cells, c_locals, c_has, c_node, c_got, c_handle, c_pTarget, c_pPlace, c_act, c_mode, c_bVar, c_pType, c_v0, c_v1, c_v2, c_last, c_bVal, c_pVal, c_out) (nI (336 + i)) := by
  subst hc
  exact br_f (nI_nlt (b := 336) (a := 336 + i) (by omega) (by omega)) h
theorem yl_lenS {q : Int32 → Prop} {s i cnt : Nat} (hs : s < 6) (hi : i < 56) (hc : c_size s = nI cnt) (h : q (nI cnt)) : wpY_length q (h_depth, h_fuel, h_count, h_open, h_types, h_sp, h_ret, h_xTarget, h_xVal, h_xType, h_xPlace, h_have, h_exiting, h_running, h_outcome, h_value, h_error, h_datum, h_place, h_beats, h_printed, c_sort, c_op, c_na, c_nb, c_up, c_val, c_size, c_params, c_parent, c_global, c_cells, c_locals, c_has, c_node, c_got, c_handle, c_pTarget, c_pPlace, c_act, c_mode, c_bVar, c_pType, c_v0, c_v1, c_v2, c_last, c_bVal, c_pVal, c_out) (nI (56 * s + i)) := by
  have e := (fb_base (b := 56 * s) (i := i) s rfl (by omega) hi).2
  refine br_t (nI_lt (b := 336) (by omega) (by decide)) ⟨by decide, ?_⟩
  rw [e]
  refine ⟨vp_in_nI hs (by decide), ?_⟩
  rw [nI_clamp (by omega), hc]
  exact h
end
end
section
/-! adding nodes and closing lists -/
theorem fo_N_keep {xo xa xb xk yt yo ya yb yu yv xo' xa' xb' xk' yt' yo' ya' yb' yu' yv' : Nat → Int32} {P O A P' O' A' : Nat → Nat} {T b b' cnt cnt' i : Nat} (N : fo_N xo xa xb xk yt yo ya yb yu yv P O A T b cnt i) (h1 : xo' (b' + i) = xo (b + i)) (h2 : xa' (b' + i) = xa (b + i)) (h3 : xb' (b' + i) = xb (b + i)) (hk : xk' (b' + i) = nI (fo_kids P' b' cnt' i).length) (h5 : yt' (b' + i) = yt (b + i)) (h6 : yo' (b' + i) = yo (b + i)) (h7 : ya' (b' + i) = ya (b + i)) (h8 : yb' (b' + i) = yb (b + i)) (h9 : yu' (b' + i) = yu (b + i)) (h10 : yv' (b' + i) = yv (b + i)) (hg : ∀ j, j ≤ i → P' (b' + j) = P (b + j) ∧ O' (b' + j) = O (b + j) ∧ A' (b' + j) = A (b + j)) (hp : ∀ j, j ≤ i → P (b + j) ≤ j) : fo_N xo' xa' xb' xk' yt' yo' ya' yb' yu' yv' P' O' A' T b' cnt' i := by
  obtain ⟨n1, n2, n3, n4, n5, n6, n7, n8⟩ := N
  obtain ⟨g1, g2, g3⟩ := hg i (Nat.le_refl _)
  unfold fo_N
  rw [h1, h2, h3, h5, h6, h7, h8, h9, h10, g1, g2, g3]
  refine ⟨n1, n2, hk, n4, n5, n6, fun z => ?_, fun j hj => by
    have := hp i (Nat.le_refl _)
    rw [(hg j (by omega)).2.1]
    exact n8 j hj⟩
  obtain ⟨m1, m2, m3, m4, m5, m6⟩ := n7 z
  refine ⟨m1, m2, m3, m4, m5, fun w => ?_⟩
  obtain ⟨t, t1, t2, t3⟩ := m6 w
  refine ⟨t, t1, t2, ?_⟩
  rw [← t3]
  exact fo_ba_congr 14 (i + 1) (fun j hj => ⟨(hg j (by omega)).1, (hg j (by omega)).2.1, fun _ => (hg j (by omega)).2.2⟩) (fun j hj => hp j (by omega))
theorem fo_Slot_keep {xo xa xb xk xz yt yo ya yb yu yv xo' xa' xb' xk' xz' yt' yo' ya' yb' yu' yv' : Nat → Int32} {P Z O A P' Z' O' A' : Nat → Nat} {T b b' cnt : Nat} {os : List Nat} (S : fo_Slot xo xa xb xk xz yt yo ya yb yu yv P Z O A T b cnt os) (h : ∀ i, i < cnt → xo' (b' + i) = xo (b + i) ∧ xa' (b' + i) = xa (b + i) ∧ xb' (b' + i) = xb (b + i) ∧ xk' (b' + i) = xk (b + i) ∧ xz' (b' + i) = xz (b + i) ∧ yt' (b' + i) = yt (b + i) ∧ yo' (b' + i) = yo (b + i) ∧ ya' (b' + i) = ya (b + i) ∧ yb' (b' + i) = yb (b + i) ∧ yu' (b' + i) = yu (b + i) ∧ yv' (b' + i) = yv (b + i)) (hg : ∀ j, j < cnt → P' (b' + j) = P (b + j) ∧ Z' (b' + j) = Z (b + j) ∧ O' (b' + j) = O (b + j) ∧ A' (b' + j) = A (b + j)) : fo_Slot xo' xa' xb' xk' xz' yt' yo' ya' yb' yu' yv' P' Z' O' A' T b' cnt os := by
  obtain ⟨s1, s2, s3, s4⟩ := S
  refine ⟨s1, fo_tree_congr (fun i hi => (hg i hi).1) (fun i hi => (hg i hi).2.1) s2, fun i hi ho => ?_, fun i hi => ?_⟩
  · obtain ⟨_, _, _, _, e, _⟩ := h i hi
    rw [e, (hg i hi).2.1]
    exact s3 i hi ho
  · obtain ⟨e1, e2, e3, e4, _, e5, e6, e7, e8, e9, e10⟩ := h i hi
    have hkk : (fo_kids P' b' cnt i).length = (fo_kids P b cnt i).length := fo_kf_len (P := P) (P' := P') (b := b) (b' := b') cnt 0 (fun j _ hj => (hg j (by omega)).1)
    refine ⟨?_, fun hno hO => by rw [hkk, (hg i hi).2.2.1]; rw [(hg i hi).2.2.1] at hO; exact (s4 i hi).2 hno hO⟩
    refine fo_N_keep (s4 i hi).1 e1 e2 e3 ?_ e5 e6 e7 e8 e9 e10 (fun j hj => ⟨(hg j (by omega)).1, (hg j (by omega)).2.2⟩) (fun j hj => (s2.1 j (by omega)).1)
    rw [e4, (s4 i hi).1.2.2.1, hkk]
def fo_kp (a : Nat → Int32) : List Nat → Nat → Int32
  | [] => a
  | o :: _ => upd a (336 + o) (a (336 + o) + 1)
/-- one node more in the form: os' is os, or the new node ahead of it -/
theorem fo_Slot_add {xo xa xb xk xz yt yo ya yb yu yv yo' ya' yb' : Nat → Int32} {P Z O A : Nat → Nat} {T cnt o a : Nat} {os os' : List Nat} {wa wb wt wv : Int32} (S : fo_Slot xo xa xb xk xz yt yo ya yb yu yv P Z O A T 336 cnt os) (hS : fo_Os P os) (hOs : ∀ o, o ∈ os → O (336 + o) ≤ 26) (h0 : os = [] → cnt = 0) (hc : cnt < 56) (hos : os' = os ∨ os' = cnt :: os) (hlf : os' = os → 27 ≤ o)
    (hyo : ∀ j, j < cnt → yo' (336 + j) = yo (336 + j)) (hya : ∀ j, j < cnt → ya' (336 + j) = ya (336 + j)) (hyb : ∀ j, j < cnt → yb' (336 + j) = yb (336 + j)) (ho : o ≤ 28)
    (c27 : o = 27 → wt = 1 ∧ wv = wa) (c28 : o = 28 → wt = 2 ∧ wv = wa ∧ wa = nI a ∧ a < 12)
    (c26 : o ≤ 26 → wt = 0 ∧ yo' (336 + cnt) = nI o ∧ fo_ar T o a ∧ (fo_ma o → wa = nI a ∧ ya' (336 + cnt) = nI a) ∧ (16 ≤ o → o ≤ 18 → ∃ w, w < 12 ∧ wb = nI w ∧ yb' (336 + cnt) = nI w) ∧ (o = 12 → ∃ t, t ≤ cnt ∧ wb = nI (cnt - t) ∧ fo_ba P O A 336 a 13 (fo_q os) = some t)) :
    fo_Slot (upd xo (336 + cnt) (nI o)) (upd xa (336 + cnt) wa) (upd xb (336 + cnt) wb) (fo_kp (upd xk (336 + cnt) 0) os) (upd xz (336 + cnt) 1) (upd yt (336 + cnt) wt) yo' ya' yb' (upd yu (336 + cnt) (nI (fo_q os) - 1)) (upd yv (336 + cnt) wv) (fo_up P (336 + cnt) (fo_q os)) (fo_up Z (336 + cnt) 1) (fo_up O (336 + cnt) o) (fo_up A (336 + cnt) a) T 336 (cnt + 1) os' ∧ fo_Os (fo_up P (336 + cnt) (fo_q os)) os' := by
  have S' := S
  obtain ⟨s1, s2, s3, s4⟩ := S'
  obtain ⟨q1, q2, q3, q4⟩ := fo_par s2 hS h0
  have tr : fo_Tree (fo_up P (336 + cnt) (fo_q os)) (fo_up Z (336 + cnt) 1) 336 (cnt + 1) os' ∧ fo_Os (fo_up P (336 + cnt) (fo_q os)) os' := by
    rcases hos with e | e
    · rw [e]; exact fo_add_leaf s2 hS h0
    · rw [e]; exact fo_add_list s2 hS h0
  have hk0 : ∀ i, i ≤ cnt → (fo_kids (fo_up P (336 + cnt) (fo_q os)) 336 (cnt + 1) i).length = (fo_kids P 336 cnt i).length + (if fo_q os = i + 1 then 1 else 0) := by
    intro i hi
    unfold fo_kids
    rw [fo_kf_snoc, Nat.zero_add, List.length_append]
    have e1 := fo_kf_len (P := P) (P' := fo_up P (336 + cnt) (fo_q os)) (b := 336) (b' := 336) (i := i) cnt 0 (fun j _ hj => fo_un (by omega))
    rw [e1, fo_us]
    by_cases e : fo_q os = i + 1
    · rw [if_pos e, if_pos e]; rfl
    · rw [if_neg e, if_neg e]; rfl
  have hkn : (fo_kids P 336 cnt cnt).length = 0 := by
    have := fo_kf_skip P 336 cnt cnt 0 0 (fun j h1 h2 h3 => by
      have := (s2.1 j (by omega)).1
      omega)
    rw [Nat.add_zero] at this
    unfold fo_kids
    rw [this]; rfl
  have hkp : ∀ i, i < cnt → fo_kp (upd xk (336 + cnt) 0) os (336 + i) = nI ((fo_kids P 336 cnt i).length + (if fo_q os = i + 1 then 1 else 0)) := by
    intro i hi
    have n3 := (s4 i hi).1.2.2.1
    cases os with
    | nil =>
      show upd xk (336 + cnt) 0 (336 + i) = _
      rw [pk_un (by omega), n3, if_neg (by show ¬ 0 = i + 1; omega)]; rfl
    | cons p r =>
      show upd (upd xk (336 + cnt) 0) (336 + p) (upd xk (336 + cnt) 0 (336 + p) + 1) (336 + i) = _
      by_cases e : i = p
      · have e2 : fo_q (p :: r) = i + 1 := by rw [e]; rfl
        rw [if_pos e2, ← e, pk_us, pk_un (by omega), n3, nI_1]
      · have e2 : ¬ fo_q (p :: r) = i + 1 := by show ¬ p + 1 = i + 1; omega
        rw [if_neg e2, pk_un (by omega), pk_un (by omega), n3]; rfl
  have hkpn : fo_kp (upd xk (336 + cnt) 0) os (336 + cnt) = 0 := by
    cases os with
    | nil => exact pk_us
    | cons p r =>
      have hp := (s2.2.2 p (List.mem_cons_self ..)).1
      show upd (upd xk (336 + cnt) 0) (336 + p) _ (336 + cnt) = 0
      rw [pk_un (by omega), pk_us]
  refine ⟨⟨by omega, tr.1, fun i hi hno => ?_, fun i hi => ?_⟩, tr.2⟩
  · by_cases e : i = cnt
    · rw [e, pk_us, fo_us]; rfl
    · have hno2 : i ∉ os := by
        rcases hos with h | h
        · rw [← h]; exact hno
        · exact fun z => hno (by rw [h]; exact List.mem_cons_of_mem _ z)
      rw [pk_un (by omega), fo_un (by omega)]
      exact s3 i (by omega) hno2
  · by_cases e : i = cnt
    · subst e
      refine ⟨?_, fun hno hO => ?_⟩
      rotate_left
      · rcases hos with h | h
        · rw [fo_us] at hO
          exact absurd hO (by have := hlf h; omega)
        · exact absurd (by rw [h]; exact List.mem_cons_self ..) hno
      unfold fo_N
      rw [fo_us, fo_us, fo_us, pk_us, pk_us, pk_us, pk_us, pk_us, pk_us, hk0 _ (Nat.le_refl _), hkn, hkpn, if_neg (by omega)]
      refine ⟨rfl, ho, rfl, rfl, c27, c28, fun z => ?_, fun j hj => by
        cases os with
        | nil => cases hj
        | cons p r =>
          have e : j = p := Nat.succ.inj hj
          have hp := (s2.2.2 p (List.mem_cons_self ..)).1
          rw [fo_un (by omega), e]
          exact hOs p (List.mem_cons_self ..)⟩
      obtain ⟨m1, m2, m3, m4, m5, m6⟩ := c26 z
      refine ⟨m1, m2, m3, m4, m5, fun w => ?_⟩
      obtain ⟨t, t1, t2, t3⟩ := m6 w
      refine ⟨t, t1, t2, ?_⟩
      rw [← t3]
      show (if fo_up O (336 + i) o (336 + i) = 11 ∧ fo_up A (336 + i) a (336 + i) = a then some i else fo_ba _ _ _ 336 a 13 (fo_up P (336 + i) (fo_q os) (336 + i))) = _
      rw [fo_us, fo_us, fo_us, if_neg (by omega)]
      exact fo_ba_congr 13 _ (fun j hj => ⟨fo_un (by omega), fo_un (by omega), fun _ => fo_un (by omega)⟩) (fun j hj => (s2.1 j (by omega)).1)
    · have hno2 : i ∉ os' → i ∉ os := fun h z => h (by
        rcases hos with q | q
        · rw [q]; exact z
        · rw [q]; exact List.mem_cons_of_mem _ z)
      refine ⟨?_, fun hno hO => by rw [hk0 i (by omega), fo_un (by omega)]; rw [fo_un (by omega)] at hO; exact Nat.le_trans ((s4 i (by omega)).2 (hno2 hno) hO) (Nat.le_add_right _ _)⟩
      refine fo_N_keep (s4 i (by omega)).1 (pk_un (by omega)) (pk_un (by omega)) (pk_un (by omega)) ?_ (pk_un (by omega)) (hyo i (by omega)) (hya i (by omega)) (hyb i (by omega)) (pk_un (by omega)) (pk_un (by omega)) (fun j hj => ⟨fo_un (by omega), fo_un (by omega), fo_un (by omega)⟩) (fun j hj => (s2.1 j (by omega)).1)
      rw [hkp i (by omega), hk0 i (by omega)]
/-- the other slots don't see it -/
theorem fo_Slot_far {xo xa xb xk xz yt yo ya yb yu yv yo' ya' yb' : Nat → Int32} {P Z O A : Nat → Nat} {T cnt o a q m z s : Nat} {os : List Nat} {wo wa wb wt wu wv wz : Int32} (hs : s < 6) (S : fo_Slot xo xa xb xk xz yt yo ya yb yu yv P Z O A T (56 * s) cnt []) (hyo : ∀ j, j < 336 → yo' j = yo j) (hya : ∀ j, j < 336 → ya' j = ya j) (hyb : ∀ j, j < 336 → yb' j = yb j) :
    fo_Slot (upd xo (336 + m) wo) (upd xa (336 + m) wa) (upd xb (336 + m) wb) (fo_kp (upd xk (336 + m) 0) os) (upd xz (336 + m) wz) (upd yt (336 + m) wt) yo' ya' yb' (upd yu (336 + m) wu) (upd yv (336 + m) wv) (fo_up P (336 + m) q) (fo_up Z (336 + m) z) (fo_up O (336 + m) o) (fo_up A (336 + m) a) T (56 * s) cnt [] := by
  have hc : cnt ≤ 56 := S.1
  refine fo_Slot_keep S (fun i hi => ⟨pk_un (by omega), pk_un (by omega), pk_un (by omega), ?_, pk_un (by omega), pk_un (by omega), hyo _ (by omega), hya _ (by omega), hyb _ (by omega), pk_un (by omega), pk_un (by omega)⟩) (fun j hj => ⟨fo_un (by omega), fo_un (by omega), fo_un (by omega), fo_un (by omega)⟩)
  cases os with
  | nil => exact pk_un (by omega)
  | cons p r =>
    show upd (upd xk (336 + m) 0) (336 + p) _ (56 * s + i) = _
    rw [pk_un (by omega), pk_un (by omega)]
def fo_rm (P O : Nat → Nat) (cnt : Nat) : List Nat → Prop
  | [] => cnt = 0
  | o :: _ => cnt < 56 ∧ (fo_kids P 336 cnt o).length < fo_most (O (336 + o))
section
variable {f_openCount f_typeCount f_printedCount f_depthLimit f_fuelLimit f_lastStatus f_lastValue f_lastError f_lastDatum f_lastPlace f_beatsUsed f_frameCount f_mode f_currentNode f_currentEnv f_result f_calls f_inForce f_exitTarget f_exitValue f_exitType f_exitPlace : Int32} {a_nodeOp a_nodeA a_nodeB a_nodeParts a_nodeSize a_slotSize a_slotParams a_openLists a_typeParent a_elements a_locals a_specialValue a_specialHas a_printed a_frames : Nat → Int32} {h_depth h_fuel h_count h_open h_types h_sp h_ret h_xTarget h_xVal h_xType h_xPlace h_have h_exiting h_running h_outcome h_value h_error h_datum h_place h_beats h_printed : Int32} {c_sort c_op c_na c_nb c_up c_val c_size c_params c_parent c_global c_cells c_locals c_has c_node c_got c_handle c_pTarget c_pPlace c_act c_mode c_bVar c_pType c_v0 c_v1 c_v2 c_last c_bVal c_pVal c_out : Nat → Int32}
theorem xl_room {post : Int32 → Prop} {P Z O A : Nat → Nat} {T cnt : Nat} {os : List Nat} (S : fo_Slot a_nodeOp a_nodeA a_nodeB a_nodeParts a_nodeSize c_sort c_op c_na c_nb c_up c_val P Z O A T 336 cnt os) (hO : ∀ o, o ∈ os → O (336 + o) ≤ 26) (hl : os.length ≤ 12) (hol : fo_OL a_openLists os) (hoc : f_openCount = nI os.length) (hs : a_slotSize 6 = nI cnt) (h1 : fo_rm P O cnt os → post 1) (h0 : ¬ fo_rm P O cnt os → post 0) : wpX_hasRoom post (f_openCount, f_typeCount, f_printedCount, f_depthLimit, f_fuelLimit, f_lastStatus, f_lastValue, f_lastError, f_lastDatum, f_lastPlace, f_beatsUsed, f_frameCount, f_mode, f_currentNode, f_currentEnv, f_result, f_calls, f_inForce, f_exitTarget, f_exitValue, f_exitType, f_exitPlace, a_nodeOp, a_nodeA, a_nodeB, a_nodeParts, a_nodeSize, a_slotSize, a_slotParams, a_openLists, a_typeParent, a_elements, a_locals, a_specialValue, a_specialHas, a_printed, a_frames) := by
  obtain ⟨s1, s2, s3, s4⟩ := S
  subst hoc
  unfold wpX_hasRoom
  dsimp only
  rw [hs]
  refine pk_lt cnt 56 (fun a => ?_) (fun a => ?_)
  · cases os with
    | nil =>
      refine br_t rfl (pk_eq cnt 0 (fun b => h1 b) (fun b => h0 b))
    | cons o r =>
      obtain ⟨o1, _⟩ := s2.2.2 o (List.mem_cons_self ..)
      have hl : r.length + 1 ≤ 12 := hl
      refine br_f (nI_ne0 (Nat.succ_pos _) (by simp only [List.length_cons]; omega)) ?_
      rw [List.length_cons, nI_pred]
      refine ⟨vp_in_nI (by omega) (by decide), ?_⟩
      rw [nI_clamp (by omega), hol.1]
      refine nm_e ?_
      rw [nI_clamp (by omega)]
      obtain ⟨n1, n2, n3, _⟩ := (s4 o o1).1
      have ho := hO o (List.mem_cons_self ..)
      have hlen : (fo_kids P 336 cnt o).length ≤ cnt := fo_kf_le _ _ _ _ _
      have hm : fo_most (O (336 + o)) ≤ 56 := by
        unfold fo_most fo_least
        repeat' split
        all_goals omega
      refine ⟨vp_in_nI (by omega) (by decide), ?_⟩
      rw [n1]
      refine xl_most ho ?_
      refine ⟨vp_in_nI (by omega) (by decide), ?_⟩
      rw [n3]
      exact pk_le (fo_most (O (336 + o))) (fo_kids P 336 cnt o).length (fun b => h0 (fun z => by have := z.2; omega)) (fun b => h1 ⟨a, b⟩)
  · refine h0 ?_
    cases os with
    | nil => exact fun z => by have : cnt = 0 := z; omega
    | cons o r => exact fun z => by have := z.1; omega
theorem yl_room {post : Int32 → Prop} {P Z O A : Nat → Nat} {T cnt : Nat} {os : List Nat} (S : fo_Slot a_nodeOp a_nodeA a_nodeB a_nodeParts a_nodeSize c_sort c_op c_na c_nb c_up c_val P Z O A T 336 cnt os) (hO : ∀ o, o ∈ os → O (336 + o) ≤ 26) (hop : h_open = nI (fo_q os) - 1) (hs : h_count = nI cnt) (h1 : fo_rm P O cnt os → post 1) (h0 : ¬ fo_rm P O cnt os → post 0) : wpY_room post (h_depth, h_fuel, h_count, h_open, h_types, h_sp, h_ret, h_xTarget, h_xVal, h_xType, h_xPlace, h_have, h_exiting, h_running, h_outcome, h_value, h_error, h_datum, h_place, h_beats, h_printed, c_sort, c_op, c_na, c_nb, c_up, c_val, c_size, c_params, c_parent, c_global, c_cells, c_locals, c_has, c_node, c_got, c_handle, c_pTarget, c_pPlace, c_act, c_mode, c_bVar, c_pType, c_v0, c_v1, c_v2, c_last, c_bVal, c_pVal, c_out) := by
  obtain ⟨s1, s2, s3, s4⟩ := S
  subst hs hop
  refine pk_eq cnt 0 (fun a => h1 ?_) (fun a => ?_)
  · cases os with
    | nil => exact a
    | cons o r =>
      obtain ⟨o1, _⟩ := s2.2.2 o (List.mem_cons_self ..)
      omega
  · cases os with
    | nil => exact br_t (by decide) (h0 a)
    | cons o r =>
      obtain ⟨o1, _⟩ := s2.2.2 o (List.mem_cons_self ..)
      have e : nI (fo_q (o :: r)) - 1 = nI o := nI_pred o
      rw [e]
      refine br_f (nI_pos (by omega)) (pk_eq cnt 56 (fun b => h0 (fun z => by have := z.1; omega)) (fun b => ?_))
      rw [fb_336]
      have hlen : (fo_kids P 336 cnt o).length ≤ cnt := fo_kf_le _ _ _ _ _
      refine yl_parts (P := P) (b := 336) (i := o) (cnt := cnt) 6 rfl (by omega) s1 (by omega) (fun j hj => ⟨(s4 j hj).1.2.2.2.1, (s2.1 j hj).1⟩) (fun q hq => yl_lenF (by omega) rfl hq) ?_
      refine ⟨vp_in_nI (by omega) (by decide), ?_⟩
      have ho := hO o (List.mem_cons_self ..)
      rw [nI_clamp (by omega), ((s4 o o1).1.2.2.2.2.2.2.1 ho).2.1]
      refine yl_most ho ?_
      have hm : fo_most (O (336 + o)) ≤ 56 := by
        unfold fo_most fo_least
        repeat' split
        all_goals omega
      exact pk_le (fo_most (O (336 + o))) (fo_kids P 336 cnt o).length (fun b => h0 (fun z => by have := z.2; omega)) (fun b => h1 ⟨by omega, b⟩)
theorem xl_add {post : SX → Prop} {cnt : Nat} {os : List Nat} (p0 p1 p2 : Int32) (hc : cnt < 56) (hl : os.length ≤ 12) (hol : fo_OL a_openLists os) (hlt : ∀ o, o ∈ os → o < 56) (hoc : f_openCount = nI os.length) (hs : a_slotSize 6 = nI cnt) (hp : post (f_openCount, f_typeCount, f_printedCount, f_depthLimit, f_fuelLimit, f_lastStatus, f_lastValue, f_lastError, f_lastDatum, f_lastPlace, f_beatsUsed, f_frameCount, f_mode, f_currentNode, f_currentEnv, f_result, f_calls, f_inForce, f_exitTarget, f_exitValue, f_exitType, f_exitPlace, upd a_nodeOp (336 + cnt) p0, upd a_nodeA (336 + cnt) p1, upd a_nodeB (336 + cnt) p2, fo_kp (upd a_nodeParts (336 + cnt) 0) os, upd a_nodeSize (336 + cnt) 1, upd a_slotSize 6 (nI (cnt + 1)), a_slotParams, a_openLists, a_typeParent, a_elements, a_locals, a_specialValue, a_specialHas, a_printed, a_frames)) : wpX_addNode post (f_openCount, f_typeCount, f_printedCount, f_depthLimit, f_fuelLimit, f_lastStatus, f_lastValue, f_lastError, f_lastDatum, f_lastPlace, f_beatsUsed, f_frameCount, f_mode, f_currentNode, f_currentEnv, f_result, f_calls, f_inForce, f_exitTarget, f_exitValue, f_exitType, f_exitPlace, a_nodeOp, a_nodeA, a_nodeB, a_nodeParts, a_nodeSize, a_slotSize, a_slotParams, a_openLists, a_typeParent, a_elements, a_locals, a_specialValue, a_specialHas, a_printed, a_frames) p0 p1 p2 := by
  unfold wpX_addNode
  have e : (336 : Int32) + a_slotSize 6 = nI (336 + cnt) := by rw [hs]; exact fb_336 cnt
  have i : vp_in (nI (336 + cnt)) 392 := vp_in_nI (by omega) (by decide)
  refine nm_r e ⟨i, nm_e ⟨i, nm_e ⟨i, nm_e ⟨i, nm_e ⟨i, nm_e ?_⟩⟩⟩⟩⟩
  rw [nI_clamp (by omega)]
  subst hoc
  cases os with
  | nil =>
    refine br_t (by decide) (nm_r ?_ hp)
    rw [hs, nI_1]
  | cons o r =>
    have hl : r.length + 1 ≤ 12 := hl
    have ho := hlt o (List.mem_cons_self ..)
    refine br_f (nI_nle (Nat.succ_pos _) (by simp only [List.length_cons]; omega)) ?_
    rw [List.length_cons, nI_pred]
    refine ⟨vp_in_nI (by omega) (by decide), ?_⟩
    rw [nI_clamp (by omega), hol.1]
    refine ⟨vp_in_nI (by omega) (by decide), vp_in_nI (by omega) (by decide), nm_e ?_⟩
    rw [nI_clamp (by omega)]
    refine nm_r (e' := upd a_slotSize 6 (nI (cnt + 1))) ?_ hp
    rw [hs, nI_1]
theorem yl_add {post : SY → Prop} {cnt w : Nat} {os : List Nat} (p1 : Int32) (hw : w < 128) (hc : cnt < 56) (hq : fo_q os < 128) (hop : h_open = nI (fo_q os) - 1) (hs : h_count = nI cnt) (hp : post (h_depth, h_fuel, nI (cnt + 1), h_open, h_types, h_sp, h_ret, h_xTarget, h_xVal, h_xType, h_xPlace, h_have, h_exiting, h_running, h_outcome, h_value, h_error, h_datum, h_place, h_beats, h_printed, upd c_sort (336 + cnt) (nI w), upd c_op (336 + cnt) (-1), c_na, c_nb, upd c_up (336 + cnt) (nI (fo_q os) - 1), upd c_val (336 + cnt) p1, c_size, c_params, c_parent, c_global, c_cells, c_locals, c_has, c_node, c_got, c_handle, c_pTarget, c_pPlace, c_act, c_mode, c_bVar, c_pType, c_v0, c_v1, c_v2, c_last, c_bVal, c_pVal, c_out)) : wpY_add post (h_depth, h_fuel, h_count, h_open, h_types, h_sp, h_ret, h_xTarget, h_xVal, h_xType, h_xPlace, h_have, h_exiting, h_running, h_outcome, h_value, h_error, h_datum, h_place, h_beats, h_printed, c_sort, c_op, c_na, c_nb, c_up, c_val, c_size, c_params, c_parent, c_global, c_cells, c_locals, c_has, c_node, c_got, c_handle, c_pTarget, c_pPlace, c_act, c_mode, c_bVar, c_pType, c_v0, c_v1, c_v2, c_last, c_bVal, c_pVal, c_out) (nI w) p1 := by
  subst hs hop
  have i : vp_in (nI (336 + cnt)) 392 := vp_in_nI (by omega) (by decide)
  unfold wpY_add
  dsimp only
  rw [fb_byte hw, fb_up hq, fb_up' hq, show vp_nar .byte (-1) = -1 from by rw [vp_nar_byte]; decide]
  refine nm_r (fb_336 cnt) ⟨i, nm_e ⟨i, nm_e ⟨i, nm_e ⟨i, nm_e (nm_r (nI_1 cnt) ?_)⟩⟩⟩⟩
  rw [nI_clamp (by omega)]
  exact hp
end
end
section
/-! num, ref, close, drop and the constructors -/
theorem fo_q_le {P Z : Nat → Nat} {cnt : Nat} {os : List Nat} (T : fo_Tree P Z 336 cnt os) : fo_q os ≤ cnt := by
  cases os with
  | nil => exact Nat.zero_le _
  | cons o r => exact (T.2.2 o (List.mem_cons_self ..)).1
theorem rl_T_add {xo xa xb xk xz xs xp xl' yt yo ya yb yu yv yo' ya' yb' ys yp : Nat → Int32} {P Z O A C ps : Nat → Nat} {T o a : Nat} {os os' : List Nat} {wa wb wt wv : Int32}
    (F1 : ∀ s, s < 6 → fo_Slot xo xa xb xk xz yt yo ya yb yu yv P Z O A T (56 * s) (C s) [] ∧ xs s = nI (C s) ∧ ys s = nI (C s) ∧ xp s = nI (ps s) ∧ yp s = nI (ps s) ∧ ps s ≤ 3)
    (F2 : fo_Slot xo xa xb xk xz yt yo ya yb yu yv P Z O A T 336 (C 6) os) (F3 : fo_Os P os) (F10 : ∀ o, o ∈ os → O (336 + o) ≤ 26) (h0 : os = [] → C 6 = 0) (hc : C 6 < 56) (hos : os' = os ∨ os' = C 6 :: os) (ho1 : os' = C 6 :: os → o ≤ 26) (hlf : os' = os → 27 ≤ o) (hl : os'.length ≤ 12) (hol : fo_OL xl' os')
    (hyo : ∀ j, j ≠ 336 + C 6 → yo' j = yo j) (hya : ∀ j, j ≠ 336 + C 6 → ya' j = ya j) (hyb : ∀ j, j ≠ 336 + C 6 → yb' j = yb j) (ho : o ≤ 28) (f1 : rl_Fb yt ∧ vp_nar .byte wt = wt) (f2 : rl_Fb yo' ∧ rl_Fb ya' ∧ rl_Fb yb' ∧ rl_Fb yu)
    (c27 : o = 27 → wt = 1 ∧ wv = wa) (c28 : o = 28 → wt = 2 ∧ wv = wa ∧ wa = nI a ∧ a < 12)
    (c26 : o ≤ 26 → wt = 0 ∧ yo' (336 + C 6) = nI o ∧ fo_ar T o a ∧ (fo_ma o → wa = nI a ∧ ya' (336 + C 6) = nI a) ∧ (16 ≤ o → o ≤ 18 → ∃ w, w < 12 ∧ wb = nI w ∧ yb' (336 + C 6) = nI w) ∧ (o = 12 → ∃ t, t ≤ C 6 ∧ wb = nI (C 6 - t) ∧ fo_ba P O A 336 a 13 (fo_q os) = some t)) :
    rl_T (upd xo (336 + C 6) (nI o)) (upd xa (336 + C 6) wa) (upd xb (336 + C 6) wb) (fo_kp (upd xk (336 + C 6) 0) os) (upd xz (336 + C 6) 1) (upd xs 6 (nI (C 6 + 1))) xp xl' (nI os'.length) (upd yt (336 + C 6) wt) yo' ya' yb' (upd yu (336 + C 6) (nI (fo_q os) - 1)) (upd yv (336 + C 6) wv) ys yp (nI (C 6 + 1)) (nI (fo_q os') - 1) T := by
  obtain ⟨A1, A2⟩ := fo_Slot_add (o := o) (a := a) (wa := wa) (wb := wb) (wt := wt) (wv := wv) (yo' := yo') (ya' := ya') (yb' := yb') F2 F3 F10 h0 hc hos hlf (fun j hj => hyo _ (by omega)) (fun j hj => hya _ (by omega)) (fun j hj => hyb _ (by omega)) ho c27 c28 c26
  refine ⟨fo_up P (336 + C 6) (fo_q os), fo_up Z (336 + C 6) 1, fo_up O (336 + C 6) o, fo_up A (336 + C 6) a, fo_up C 6 (C 6 + 1), ps, os', fun s hs => ?_, ?_, A2, hl, hol, rfl, rfl, ?_, ?_, fun p hp => ?_, rl_Fb_upd f1.1 f1.2, f2.1, f2.2.1, f2.2.2.1, rl_Fb_upd f2.2.2.2 (fb_up' (by have := fo_q_le F2.2.1; omega))⟩
  · obtain ⟨G1, G2, G3⟩ := F1 s hs
    rw [fo_un (by omega), pk_un (by omega)]
    exact ⟨fo_Slot_far hs G1 (fun j hj => hyo _ (by omega)) (fun j hj => hya _ (by omega)) (fun j hj => hyb _ (by omega)), G2, G3⟩
  · rw [fo_us]; exact A1
  · rw [fo_us, pk_us]
  · rw [fo_us]
  · by_cases e : p = C 6
    · rw [e, fo_us]
      rcases hos with h | h
      · rw [h, e] at hp
        exact absurd (F2.2.1.2.2 _ hp).1 (Nat.lt_irrefl _)
      · exact ho1 h
    · rw [fo_un (by omega)]
      rcases hos with h | h
      · rw [h] at hp; exact F10 p hp
      · rw [h] at hp
        rcases List.mem_cons.mp hp with g | g
        · exact absurd g e
        · exact F10 p g
theorem fo_rm_h0 {P O : Nat → Nat} {cnt : Nat} {os : List Nat} (h : fo_rm P O cnt os) : (os = [] → cnt = 0) ∧ cnt < 56 := by
  cases os with
  | nil => exact ⟨fun _ => h, by have : cnt = 0 := h; omega⟩
  | cons o r => exact ⟨fun z => (by cases z), h.1⟩
theorem i_vc_num {k : Nat} {u : SX} {v : SY} (I : i_Rel k u v) (hk : k + 4 ≤ 2050) (v1 : Int32) : wpX_num (fun r u' => wpY_num (fun r' v' => r' = r ∧ i_Rel (k + 4) u' v') v v1) u v1 := by
  obtain ⟨f_openCount, f_typeCount, f_printedCount, f_depthLimit, f_fuelLimit, f_lastStatus, f_lastValue, f_lastError, f_lastDatum, f_lastPlace, f_beatsUsed, f_frameCount, f_mode, f_currentNode, f_currentEnv, f_result, f_calls, f_inForce, f_exitTarget, f_exitValue, f_exitType, f_exitPlace, a_nodeOp, a_nodeA, a_nodeB, a_nodeParts, a_nodeSize, a_slotSize, a_slotParams, a_openLists, a_typeParent, a_elements, a_locals, a_specialValue, a_specialHas, a_printed, a_frames⟩ := u
  obtain ⟨h_depth, h_fuel, h_count, h_open, h_types, h_sp, h_ret, h_xTarget, h_xVal, h_xType, h_xPlace, h_have, h_exiting, h_running, h_outcome, h_value, h_error, h_datum, h_place, h_beats, h_printed, c_sort, c_op, c_na, c_nb, c_up, c_val, c_size, c_params, c_parent, c_global, c_cells, c_locals, c_has, c_node, c_got, c_handle, c_pTarget, c_pPlace, c_act, c_mode, c_bVar, c_pType, c_v0, c_v1, c_v2, c_last, c_bVal, c_pVal, c_out⟩ := v
  have I' := I
  obtain ⟨T, d, F, R1, R2, R3, R4, R5, R6, P, Z, O, A, C, ps, os, F1, F2, F3, F4, F5, F6, F7, F8, F9, F10, F11⟩ := I'
  have hq := fo_q_le F2.2.1
  have hc := F2.1
  unfold wpX_num
  dsimp only
  refine xl_room F2 F10 F4 F5 F6 F8 (fun h => ?_) (fun h => ?_)
  · obtain ⟨h0, hc6⟩ := fo_rm_h0 h
    refine br_f (by decide) ?_
    refine xl_add 27 v1 0 hc6 F4 F5 (fun o ho => by have := (F2.2.1.2.2 o ho).1; omega) F6 F8 ?_
    unfold wpY_num
    dsimp only
    refine yl_room F2 F10 F7 F9 (fun _ => ?_) (fun g => absurd h g)
    refine br_f (by decide) ?_
    refine yl_add (w := 1) v1 (by decide) hc6 (by omega) F7 F9 ?_
    refine ⟨rfl, T, d, F, R1, R2, R3, R4, R5, R6, ?_⟩
    subst F6 F7
    exact rl_T_add (o := 27) (a := 0) F1 F2 F3 F10 h0 hc6 (Or.inl rfl) (fun e => absurd (congrArg List.length e) (by simp)) (fun _ => by decide) F4 F5 (fun j hj => pk_un hj) (fun j hj => rfl) (fun j hj => rfl) (by decide) ⟨F11.1, fb_byte' (n := 1) (by decide)⟩ ⟨rl_Fb_upd F11.2.1 (by rw [vp_nar_byte]; decide), F11.2.2.1, F11.2.2.2.1, F11.2.2.2.2⟩ (fun _ => ⟨rfl, rfl⟩) (fun e => by omega) (fun e => by omega)
  · refine br_t rfl ?_
    unfold wpY_num
    dsimp only
    refine yl_room F2 F10 F7 F9 (fun g => absurd g h) (fun _ => ?_)
    exact br_t rfl ⟨rfl, I⟩
theorem i_vc_ref {k : Nat} {u : SX} {v : SY} (I : i_Rel k u v) (hk : k + 4 ≤ 2050) (v1 : Int32) : wpX_ref (fun r u' => wpY_ref (fun r' v' => r' = r ∧ i_Rel (k + 4) u' v') v v1) u v1 := by
  obtain ⟨f_openCount, f_typeCount, f_printedCount, f_depthLimit, f_fuelLimit, f_lastStatus, f_lastValue, f_lastError, f_lastDatum, f_lastPlace, f_beatsUsed, f_frameCount, f_mode, f_currentNode, f_currentEnv, f_result, f_calls, f_inForce, f_exitTarget, f_exitValue, f_exitType, f_exitPlace, a_nodeOp, a_nodeA, a_nodeB, a_nodeParts, a_nodeSize, a_slotSize, a_slotParams, a_openLists, a_typeParent, a_elements, a_locals, a_specialValue, a_specialHas, a_printed, a_frames⟩ := u
  obtain ⟨h_depth, h_fuel, h_count, h_open, h_types, h_sp, h_ret, h_xTarget, h_xVal, h_xType, h_xPlace, h_have, h_exiting, h_running, h_outcome, h_value, h_error, h_datum, h_place, h_beats, h_printed, c_sort, c_op, c_na, c_nb, c_up, c_val, c_size, c_params, c_parent, c_global, c_cells, c_locals, c_has, c_node, c_got, c_handle, c_pTarget, c_pPlace, c_act, c_mode, c_bVar, c_pType, c_v0, c_v1, c_v2, c_last, c_bVal, c_pVal, c_out⟩ := v
  have I' := I
  obtain ⟨T, d, F, R1, R2, R3, R4, R5, R6, P, Z, O, A, C, ps, os, F1, F2, F3, F4, F5, F6, F7, F8, F9, F10, F11⟩ := I'
  have hq := fo_q_le F2.2.1
  have hc := F2.1
  unfold wpX_ref
  dsimp only
  refine xl_room F2 F10 F4 F5 F6 F8 (fun h => ?_) (fun h => ?_)
  · obtain ⟨h0, hc6⟩ := fo_rm_h0 h
    refine br_f (by decide) ?_
    by_cases a1 : v1 < 0
    · exact br_t a1 (br_t rfl (br_t a1 ⟨rfl, I⟩))
    · refine br_f a1 ?_
      by_cases a2 : (12 : Int32) ≤ v1
      · have a3 : (11 : Int32) < v1 := Int32.lt_of_lt_of_le (by decide) a2
        exact br_t a2 (br_t rfl (br_f a1 (br_t a3 ⟨rfl, I⟩)))
      · obtain ⟨j, hj, rfl⟩ := fb_lt 0 12 a1 a2 (by decide) (by decide)
        rw [Nat.zero_add] at *
        have a3 : ¬ (11 : Int32) < nI j := nI_nlt (b := j) (a := 11) (by omega) (by decide)
        refine br_f a2 (br_f (by decide) ?_)
        refine xl_add 28 (nI j) 0 hc6 F4 F5 (fun o ho => by have := (F2.2.1.2.2 o ho).1; omega) F6 F8 ?_
        refine br_f a1 (br_f a3 ?_)
        refine yl_room F2 F10 F7 F9 (fun _ => ?_) (fun g => absurd h g)
        refine br_f (by decide) ?_
        refine yl_add (w := 2) (nI j) (by decide) hc6 (by omega) F7 F9 ?_
        refine ⟨rfl, T, d, F, R1, R2, R3, R4, R5, R6, ?_⟩
        subst F6 F7
        exact rl_T_add (o := 28) (a := j) F1 F2 F3 F10 h0 hc6 (Or.inl rfl) (fun e => absurd (congrArg List.length e) (by simp)) (fun _ => by decide) F4 F5 (fun j hj => pk_un hj) (fun j hj => rfl) (fun j hj => rfl) (by decide) ⟨F11.1, fb_byte' (n := 2) (by decide)⟩ ⟨rl_Fb_upd F11.2.1 (by rw [vp_nar_byte]; decide), F11.2.2.1, F11.2.2.2.1, F11.2.2.2.2⟩ (fun e => by omega) (fun _ => ⟨rfl, rfl, rfl, by omega⟩) (fun e => by omega)
  · refine br_t rfl ?_
    by_cases a1 : v1 < 0
    · exact br_t a1 ⟨rfl, I⟩
    · refine br_f a1 ?_
      by_cases a3 : (11 : Int32) < v1
      · exact br_t a3 ⟨rfl, I⟩
      · refine br_f a3 ?_
        refine yl_room F2 F10 F7 F9 (fun g => absurd g h) (fun _ => ?_)
        exact br_t rfl ⟨rfl, I⟩
theorem i_vc_drop {k : Nat} {u : SX} {v : SY} (I : i_Rel k u v) (hk : k + 4 ≤ 2050) : wpX_drop (fun u' => wpY_drop (fun v' => i_Rel (k + 4) u' v') v) u := by
  obtain ⟨f_openCount, f_typeCount, f_printedCount, f_depthLimit, f_fuelLimit, f_lastStatus, f_lastValue, f_lastError, f_lastDatum, f_lastPlace, f_beatsUsed, f_frameCount, f_mode, f_currentNode, f_currentEnv, f_result, f_calls, f_inForce, f_exitTarget, f_exitValue, f_exitType, f_exitPlace, a_nodeOp, a_nodeA, a_nodeB, a_nodeParts, a_nodeSize, a_slotSize, a_slotParams, a_openLists, a_typeParent, a_elements, a_locals, a_specialValue, a_specialHas, a_printed, a_frames⟩ := u
  obtain ⟨h_depth, h_fuel, h_count, h_open, h_types, h_sp, h_ret, h_xTarget, h_xVal, h_xType, h_xPlace, h_have, h_exiting, h_running, h_outcome, h_value, h_error, h_datum, h_place, h_beats, h_printed, c_sort, c_op, c_na, c_nb, c_up, c_val, c_size, c_params, c_parent, c_global, c_cells, c_locals, c_has, c_node, c_got, c_handle, c_pTarget, c_pPlace, c_act, c_mode, c_bVar, c_pType, c_v0, c_v1, c_v2, c_last, c_bVal, c_pVal, c_out⟩ := v
  obtain ⟨T, d, F, R1, R2, R3, R4, R5, R6, P, Z, O, A, C, ps, os, F1, F2, F3, F4, F5, F6, F7, F8, F9, F10, F11⟩ := I
  refine nm_e ?_
  refine ⟨T, d, F, R1, R2, R3, R4, R5, R6, P, Z, O, A, fo_up C 6 0, ps, [], fun s hs => ?_, ?_, trivial, by decide, trivial, rfl, rfl, ?_, ?_, fun o h => (by cases h), F11⟩
  · rw [fo_un (by omega), pk_un (by omega)]; exact F1 s hs
  · rw [fo_us]
    refine ⟨by decide, ⟨fun i h => absurd h (Nat.not_lt_zero _), fun i h => absurd h (Nat.not_lt_zero _), fun i h => by cases h⟩, fun i h => absurd h (Nat.not_lt_zero _), fun i h => absurd h (Nat.not_lt_zero _)⟩
  · rw [pk_us, fo_us]; rfl
  · rw [fo_us]; rfl
theorem i_vc_close {k : Nat} {u : SX} {v : SY} (I : i_Rel k u v) (hk : k + 4 ≤ 2050) : wpX_close (fun r u' => wpY_close (fun r' v' => r' = r ∧ i_Rel (k + 4) u' v') v) u := by
  obtain ⟨f_openCount, f_typeCount, f_printedCount, f_depthLimit, f_fuelLimit, f_lastStatus, f_lastValue, f_lastError, f_lastDatum, f_lastPlace, f_beatsUsed, f_frameCount, f_mode, f_currentNode, f_currentEnv, f_result, f_calls, f_inForce, f_exitTarget, f_exitValue, f_exitType, f_exitPlace, a_nodeOp, a_nodeA, a_nodeB, a_nodeParts, a_nodeSize, a_slotSize, a_slotParams, a_openLists, a_typeParent, a_elements, a_locals, a_specialValue, a_specialHas, a_printed, a_frames⟩ := u
  obtain ⟨h_depth, h_fuel, h_count, h_open, h_types, h_sp, h_ret, h_xTarget, h_xVal, h_xType, h_xPlace, h_have, h_exiting, h_running, h_outcome, h_value, h_error, h_datum, h_place, h_beats, h_printed, c_sort, c_op, c_na, c_nb, c_up, c_val, c_size, c_params, c_parent, c_global, c_cells, c_locals, c_has, c_node, c_got, c_handle, c_pTarget, c_pPlace, c_act, c_mode, c_bVar, c_pType, c_v0, c_v1, c_v2, c_last, c_bVal, c_pVal, c_out⟩ := v
  have I' := I
  obtain ⟨T, d, F, R1, R2, R3, R4, R5, R6, P, Z, O, A, C, ps, os, F1, F2, F3, F4, F5, F6, F7, F8, F9, F10, F11⟩ := I'
  have F2' := F2
  obtain ⟨s1, s2, s3, s4⟩ := F2'
  subst F6 F7
  cases os with
  | nil => exact br_t rfl (br_t (by decide) ⟨rfl, I⟩)
  | cons o r =>
    obtain ⟨o1, _⟩ := s2.2.2 o (List.mem_cons_self ..)
    have hl : r.length + 1 ≤ 12 := F4
    have ho := F10 o (List.mem_cons_self ..)
    have hlen : (fo_kids P 336 (C 6) o).length ≤ C 6 := fo_kf_le _ _ _ _ _
    have hle : fo_least (O (336 + o)) ≤ 3 := by
      unfold fo_least
      repeat' split
      all_goals omega
    obtain ⟨n1, n2, n3, n4, _, _, n7, _⟩ := (s4 o o1).1
    have eo : nI (fo_q (o :: r)) - 1 = nI o := nI_pred o
    have el : nI (o :: r).length - 1 = nI r.length := nI_pred r.length
    have Yl : ∀ Q : Int32 → SY → Prop, (fo_least (O (336 + o)) ≤ (fo_kids P 336 (C 6) o).length → Q 1 (h_depth, h_fuel, h_count, nI (fo_q r) - 1, h_types, h_sp, h_ret, h_xTarget, h_xVal, h_xType, h_xPlace, h_have, h_exiting, h_running, h_outcome, h_value, h_error, h_datum, h_place, h_beats, h_printed, c_sort, c_op, c_na, c_nb, c_up, c_val, c_size, c_params, c_parent, c_global, c_cells, c_locals, c_has, c_node, c_got, c_handle, c_pTarget, c_pPlace, c_act, c_mode, c_bVar, c_pType, c_v0, c_v1, c_v2, c_last, c_bVal, c_pVal, c_out)) → ((fo_kids P 336 (C 6) o).length < fo_least (O (336 + o)) → Q 0 (h_depth, h_fuel, h_count, nI (fo_q (o :: r)) - 1, h_types, h_sp, h_ret, h_xTarget, h_xVal, h_xType, h_xPlace, h_have, h_exiting, h_running, h_outcome, h_value, h_error, h_datum, h_place, h_beats, h_printed, c_sort, c_op, c_na, c_nb, c_up, c_val, c_size, c_params, c_parent, c_global, c_cells, c_locals, c_has, c_node, c_got, c_handle, c_pTarget, c_pPlace, c_act, c_mode, c_bVar, c_pType, c_v0, c_v1, c_v2, c_last, c_bVal, c_pVal, c_out)) → wpY_close Q (h_depth, h_fuel, h_count, nI (fo_q (o :: r)) - 1, h_types, h_sp, h_ret, h_xTarget, h_xVal, h_xType, h_xPlace, h_have, h_exiting, h_running, h_outcome, h_value, h_error, h_datum, h_place, h_beats, h_printed, c_sort, c_op, c_na, c_nb, c_up, c_val, c_size, c_params, c_parent, c_global, c_cells, c_locals, c_has, c_node, c_got, c_handle, c_pTarget, c_pPlace, c_act, c_mode, c_bVar, c_pType, c_v0, c_v1, c_v2, c_last, c_bVal, c_pVal, c_out) := by
      intro Q q1 q2
      have hb : ¬ nI (fo_q (o :: r)) - 1 < 0 := by rw [eo]; exact nI_pos (by omega)
      refine br_f hb ?_
      rw [eo, fb_336]
      refine yl_parts (P := P) (b := 336) (i := o) (cnt := C 6) 6 rfl (by omega) s1 (by omega) (fun j hj => ⟨(s4 j hj).1.2.2.2.1, (s2.1 j hj).1⟩) (fun q hq => yl_lenF (by omega) F9 hq) ?_
      refine ⟨vp_in_nI (by omega) (by decide), ?_⟩
      rw [nI_clamp (by omega), (n7 ho).2.1]
      refine yl_least ho ?_
      refine pk_le (fo_least (O (336 + o))) (fo_kids P 336 (C 6) o).length (fun z => ?_) (fun z => ?_)
      · refine ⟨vp_in_nI (by omega) (by decide), nm_r (e' := nI (fo_q r) - 1) ?_ (q1 z)⟩
        rw [n4]
        congr 2
        cases r with
        | nil => exact F3.1
        | cons o' r' => exact F3.1.1
      · have := q2 z
        rw [eo] at this
        exact this
    refine br_f (nI_ne0 (Nat.succ_pos _) (by simp only [List.length_cons]; omega)) ?_
    rw [el]
    refine ⟨vp_in_nI (by omega) (by decide), ?_⟩
    rw [nI_clamp (by omega), F5.1]
    refine nm_e ?_
    rw [nI_clamp (by omega)]
    refine ⟨vp_in_nI (by omega) (by decide), ?_⟩
    rw [n1]
    refine xl_least ho ?_
    refine ⟨vp_in_nI (by omega) (by decide), ?_⟩
    rw [n3]
    refine pk_le (fo_least (O (336 + o))) (fo_kids P 336 (C 6) o).length (fun z => ?_) (fun z => ?_)
    · refine ⟨vp_in_nI (by omega) (by decide), nm_e (nm_e ?_)⟩
      refine Yl _ (fun _ => ?_) (fun g => by omega)
      refine ⟨rfl, T, d, F, R1, R2, R3, R4, R5, R6, ?_⟩
      have ez : ((336 : Int32) + a_slotSize 6) - nI (336 + o) = nI (C 6 - o) := by
        rw [F8, fb_336, pk_sub (by omega)]
        exact congrArg nI (by omega)
      obtain ⟨G1, G2⟩ := fo_close s2 F3
      refine ⟨P, fo_up Z (336 + o) (C 6 - o), O, A, C, ps, r, fun s hs => ?_, ⟨s1, G1, fun i hi hno => ?_, fun i hi => ⟨(s4 i hi).1, fun hno hO => ?_⟩⟩, G2, by omega, F5.2, rfl, rfl, F8, F9, fun q hq => F10 q (List.mem_cons_of_mem _ hq), F11⟩
      · obtain ⟨H1, H2⟩ := F1 s hs
        have hcs := H1.1
        exact ⟨fo_Slot_keep H1 (fun i hi => ⟨rfl, rfl, rfl, rfl, pk_un (by omega), rfl, rfl, rfl, rfl, rfl, rfl⟩) (fun j hj => ⟨rfl, fo_un (by omega), rfl, rfl⟩), H2⟩
      · by_cases e : i = o
        · rw [e, pk_us, fo_us, ez]
        · rw [pk_un (by omega), fo_un (by omega)]
          refine s3 i hi (fun z => ?_)
          rcases List.mem_cons.mp z with g | g
          · exact e g
          · exact hno g
      · by_cases e : i = o
        · rw [e]; exact z
        · refine (s4 i hi).2 (fun w => ?_) hO
          rcases List.mem_cons.mp w with g | g
          · exact e g
          · exact hno g
    · exact Yl _ (fun g => by omega) (fun _ => ⟨rfl, I⟩)
end
section
/-! the constructors -/
theorem rl_T_0 : rl_T (fun _ => 0) (fun _ => 0) (fun _ => 0) (fun _ => 0) (fun _ => 0) (fun _ => 0) (fun _ => 0) (fun _ => 0) 0 (fun _ => 0) (fun _ => 0) (fun _ => 0) (fun _ => 0) (fun _ => 0) (fun _ => 0) (fun _ => 0) (fun _ => 0) 0 (-1) 9 := by
  have fb : rl_Fb (fun _ => 0) := fun j => by show vp_nar .byte 0 = 0; rw [vp_nar_byte]; decide
  have sl : ∀ b, fo_Slot (fun _ => 0) (fun _ => 0) (fun _ => 0) (fun _ => 0) (fun _ => 0) (fun _ => 0) (fun _ => 0) (fun _ => 0) (fun _ => 0) (fun _ => 0) (fun _ => 0) (fun _ => 0) (fun _ => 0) (fun _ => 0) (fun _ => 0) 9 b 0 [] := fun b =>
    ⟨by decide, ⟨fun i h => absurd h (Nat.not_lt_zero _), fun i h => absurd h (Nat.not_lt_zero _), fun i h => by cases h⟩, fun i h => absurd h (Nat.not_lt_zero _), fun i h => absurd h (Nat.not_lt_zero _)⟩
  exact ⟨fun _ => 0, fun _ => 0, fun _ => 0, fun _ => 0, fun _ => 0, fun _ => 0, [], fun s _ => ⟨sl _, rfl, rfl, rfl, rfl, Nat.zero_le _⟩, sl _, trivial, by decide, trivial, rfl, rfl, rfl, rfl, fun o h => (by cases h), fb, fb, fb, fb, fb⟩
def rl_p0 (t : Nat) : Nat := if t = 2 then 1 else if 3 ≤ t ∧ t ≤ 9 then 2 else 0
theorem rl_Sp_0 : rl_Sp (fun _ => 0) (fun _ => 0) (fun _ => 0) (fun _ => 0) := fun j hj => ⟨Or.inl rfl, rfl, fun h => absurd rfl h⟩
theorem rl_Ce_0 : rl_Ce (fun _ => 0) := by
  intro a i ha hi
  show m_kb a 0 = 0
  unfold m_kb
  repeat' split
  all_goals decide
theorem rl_cl (p : Int32) (m : Nat) (hm : 1 ≤ m) (hm2 : m < 2 ^ 31) : ∃ n, 1 ≤ n ∧ n ≤ m ∧ (∀ post : Int32 → Prop, post (nI n) → wpX_clamped post p (nI m)) ∧ (∀ A B D : Prop, (p = nI n → A) → (nI m = nI n → B) → (1 = nI n → D) → ((1 ≤ p → ((p ≤ nI m → A) ∧ (¬ p ≤ nI m → B))) ∧ (¬ 1 ≤ p → D))) := by
  by_cases h : (1 : Int32) ≤ p
  · have h0 : ¬ p < 0 := fun z => absurd (Int32.lt_of_le_of_lt h z) (by decide)
    obtain ⟨j, hj, rfl⟩ := nI_of h0
    have hj1 : 1 ≤ j := by
      rcases Nat.eq_zero_or_pos j with z | z
      · subst z; exact absurd h (by decide)
      · exact z
    by_cases g : nI j ≤ nI m
    · rw [nI_leI hj hm2] at g
      refine ⟨j, hj1, g, fun post hp => br_t h (br_t (nI_le g hm2) hp), fun A B D a b d => br_t h (br_t (nI_le g hm2) (a rfl))⟩
    · exact ⟨m, hm, Nat.le_refl _, fun post hp => br_t h (br_f g hp), fun A B D a b d => br_t h (br_f g (b rfl))⟩
  · exact ⟨1, Nat.le_refl _, hm, fun post hp => br_f h hp, fun A B D a b d => br_f h (d rfl)⟩
theorem i_vc0 (k0 : Int32) (k1 : Int32) : wpX_init (fun u => wpY_init (fun v => i_Rel 2 u v) k0 k1) k0 k1 := by
  obtain ⟨d, d1, d2, dX, dY⟩ := rl_cl k0 5 (by decide) (by decide)
  obtain ⟨F, e1, e2, eX, eY⟩ := rl_cl k1 200 (by decide) (by decide)
  unfold wpX_init
  refine dX _ (eX _ ?_)
  refine nm_e ⟨8, ?_⟩
  iterate 7 (refine br_f (by decide) ⟨vp_in_iff.mpr (by decide), nm_e (nm_e ?_)⟩)
  refine br_t (by decide) ?_
  refine dY _ _ _ (fun z => ?_) (fun z => ?_) (fun z => ?_) <;> refine eY _ _ _ (fun w => ?_) (fun w => ?_) (fun w => ?_)
  all_goals
    refine nm_e ⟨8, ?_⟩
    iterate 7 (refine br_f (by decide) ⟨vp_in_iff.mpr (by decide), nm_e (nm_e ?_)⟩)
    refine br_t (by decide) ?_
    exact ⟨9, d, F, ⟨rfl, rfl, ⟨by decide, by decide, rl_p0, by decide +kernel⟩, rfl⟩, ⟨rfl, z, d1, d2⟩, ⟨rfl, w, e1, e2⟩, ⟨rfl, rfl, rfl, rfl, rfl⟩, ⟨rfl, rfl, rfl, rfl, rl_Ce_0⟩, rl_Sp_0, rl_T_0⟩
end
section
/-! define -/
def fo_cp {α : Type} (a : Nat → α) (f t : Nat) : Nat → α := fun j => if 56 * f ≤ j ∧ j < 56 * f + t then a (336 + (j - 56 * f)) else a j
theorem fo_cp_0 {α : Type} (a : Nat → α) (f : Nat) : fo_cp a f 0 = a := by
  funext j
  exact if_neg (by omega)
theorem fo_cp_in {α : Type} {a : Nat → α} {f t i : Nat} (h : i < t) : fo_cp a f t (56 * f + i) = a (336 + i) := by
  have e : 56 * f + i - 56 * f = i := by omega
  show (if 56 * f ≤ 56 * f + i ∧ 56 * f + i < 56 * f + t then a (336 + (56 * f + i - 56 * f)) else a (56 * f + i)) = _
  rw [if_pos (by omega), e]
theorem fo_cp_out {α : Type} {a : Nat → α} {f t j : Nat} (h : ¬ (56 * f ≤ j ∧ j < 56 * f + t)) : fo_cp a f t j = a j := if_neg h
theorem fo_cp_s {a : Nat → Int32} {f t : Nat} {x : Int32} (hx : x = a (336 + t)) : upd (fo_cp a f t) (56 * f + t) x = fo_cp a f (t + 1) := by
  funext j
  by_cases e : j = 56 * f + t
  · rw [e, pk_us, fo_cp_in (Nat.lt_succ_self t), hx]
  · rw [pk_un e]
    by_cases g : 56 * f ≤ j ∧ j < 56 * f + t
    · show (if 56 * f ≤ j ∧ j < 56 * f + t then a (336 + (j - 56 * f)) else a j) = (if 56 * f ≤ j ∧ j < 56 * f + (t + 1) then a (336 + (j - 56 * f)) else a j)
      rw [if_pos g, if_pos (by omega)]
    · rw [fo_cp_out g, fo_cp_out (by omega)]
theorem fo_cp_x {a : Nat → Int32} {f t : Nat} (hf : f < 6) (ht : t < 56) : upd (fo_cp a f t) (nI (56 * f) + nI t).toNatClampNeg (fo_cp a f t (336 + nI t).toNatClampNeg) = fo_cp a f (t + 1) := by
  rw [nI_add, fb_336, nI_clamp (by omega), nI_clamp (by omega)]
  exact fo_cp_s (fo_cp_out (by omega))
theorem fo_cp_y {a : Nat → Int32} {f t : Nat} (hf : f < 6) (ht : t < 56) (hb : rl_Fb a) : upd (fo_cp a f t) (nI (56 * f + t)).toNatClampNeg (vp_nar .byte (fo_cp a f t (336 + nI t).toNatClampNeg)) = fo_cp a f (t + 1) := by
  rw [fb_336, nI_clamp (by omega), nI_clamp (by omega), fo_cp_out (by omega), hb]
  exact fo_cp_s rfl
theorem fo_cp_z {a : Nat → Int32} {f t : Nat} (hf : f < 6) (ht : t < 56) : upd (fo_cp a f t) (nI (56 * f + t)).toNatClampNeg (fo_cp a f t (336 + nI t).toNatClampNeg) = fo_cp a f (t + 1) := by
  rw [fb_336, nI_clamp (by omega), nI_clamp (by omega), fo_cp_out (by omega)]
  exact fo_cp_s rfl
theorem fo_cp_Fb {a : Nat → Int32} {f t : Nat} (hb : rl_Fb a) : rl_Fb (fo_cp a f t) := by
  intro j
  by_cases g : 56 * f ≤ j ∧ j < 56 * f + t
  · show vp_nar .byte (if 56 * f ≤ j ∧ j < 56 * f + t then a (336 + (j - 56 * f)) else a j) = (if 56 * f ≤ j ∧ j < 56 * f + t then a (336 + (j - 56 * f)) else a j)
    rw [if_pos g]; exact hb _
  · rw [fo_cp_out g]; exact hb _
def fo_tot (C : Nat → Nat) (f : Nat) : Nat → Nat → Nat
  | 0, _ => 0
  | d + 1, t => (if t = f then 0 else C t) + fo_tot C f d (t + 1)
section
variable {f_openCount f_typeCount f_printedCount f_depthLimit f_fuelLimit f_lastStatus f_lastValue f_lastError f_lastDatum f_lastPlace f_beatsUsed f_frameCount f_mode f_currentNode f_currentEnv f_result f_calls f_inForce f_exitTarget f_exitValue f_exitType f_exitPlace : Int32} {a_nodeOp a_nodeA a_nodeB a_nodeParts a_nodeSize a_slotSize a_slotParams a_openLists a_typeParent a_elements a_locals a_specialValue a_specialHas a_printed a_frames : Nat → Int32} {h_depth h_fuel h_count h_open h_types h_sp h_ret h_xTarget h_xVal h_xType h_xPlace h_have h_exiting h_running h_outcome h_value h_error h_datum h_place h_beats h_printed : Int32} {c_sort c_op c_na c_nb c_up c_val c_size c_params c_parent c_global c_cells c_locals c_has c_node c_got c_handle c_pTarget c_pPlace c_act c_mode c_bVar c_pType c_v0 c_v1 c_v2 c_last c_bVal c_pVal c_out : Nat → Int32}
theorem xl_store16 {post : SX → Prop} {f cnt : Nat} (hf : f < 6) (hc : cnt ≤ 56) (hp : post (f_openCount, f_typeCount, f_printedCount, f_depthLimit, f_fuelLimit, f_lastStatus, f_lastValue, f_lastError, f_lastDatum, f_lastPlace, f_beatsUsed, f_frameCount, f_mode, f_currentNode, f_currentEnv, f_result, f_calls, f_inForce, f_exitTarget, f_exitValue, f_exitType, f_exitPlace, fo_cp a_nodeOp f cnt, fo_cp a_nodeA f cnt, fo_cp a_nodeB f cnt, fo_cp a_nodeParts f cnt, fo_cp a_nodeSize f cnt, upd a_slotSize f (nI cnt), a_slotParams, a_openLists, a_typeParent, a_elements, a_locals, a_specialValue, a_specialHas, a_printed, a_frames)) : ∀ (d t n : Nat), t + d = cnt → d < n → wX_storeForm_16 post (nI f) (nI (56 * f)) (nI cnt) f_openCount f_typeCount f_printedCount f_depthLimit f_fuelLimit f_lastStatus f_lastValue f_lastError f_lastDatum f_lastPlace f_beatsUsed f_frameCount f_mode f_currentNode f_currentEnv f_result f_calls f_inForce f_exitTarget f_exitValue f_exitType f_exitPlace n (nI t) (fo_cp a_nodeOp f t) (fo_cp a_nodeA f t) (fo_cp a_nodeB f t) (fo_cp a_nodeParts f t) (fo_cp a_nodeSize f t) a_slotSize a_slotParams a_openLists a_typeParent a_elements a_locals a_specialValue a_specialHas a_printed a_frames
  | _, _, 0, _, h => by omega
  | 0, t, n + 1, ht, _ => by
    have e : t = cnt := by omega
    subst e
    refine br_t (nI_le (Nat.le_refl _) (by omega)) ⟨vp_in_nI (by omega) (by decide), nm_e ?_⟩
    rw [nI_clamp (by omega)]
    exact hp
  | d + 1, t, n + 1, ht, hn => by
    have i1 : vp_in (336 + nI t) 392 := by rw [fb_336]; exact vp_in_nI (by omega) (by decide)
    have i2 : vp_in (nI (56 * f) + nI t) 392 := by rw [nI_add]; exact vp_in_nI (by omega) (by decide)
    refine br_f (nI_ge (by omega) (by omega)) (br_f (nI_ge (b := 56) (by omega) (by decide)) ?_)
    refine ⟨i1, i2, nm_r (fo_cp_x hf (by omega)) ⟨i1, i2, nm_r (fo_cp_x hf (by omega)) ⟨i1, i2, nm_r (fo_cp_x hf (by omega)) ⟨i1, i2, nm_r (fo_cp_x hf (by omega)) ⟨i1, i2, nm_r (fo_cp_x hf (by omega)) (nm_r (nI_1 t) ?_)⟩⟩⟩⟩⟩
    exact xl_store16 hf hc hp d (t + 1) n (by omega) (by omega)
theorem xl_store {post : SX → Prop} {f cnt : Nat} (hf : f < 6) (hc : cnt ≤ 56) (hs : a_slotSize 6 = nI cnt) (hp : post (f_openCount, f_typeCount, f_printedCount, f_depthLimit, f_fuelLimit, f_lastStatus, f_lastValue, f_lastError, f_lastDatum, f_lastPlace, f_beatsUsed, f_frameCount, f_mode, f_currentNode, f_currentEnv, f_result, f_calls, f_inForce, f_exitTarget, f_exitValue, f_exitType, f_exitPlace, fo_cp a_nodeOp f cnt, fo_cp a_nodeA f cnt, fo_cp a_nodeB f cnt, fo_cp a_nodeParts f cnt, fo_cp a_nodeSize f cnt, upd a_slotSize f (nI cnt), a_slotParams, a_openLists, a_typeParent, a_elements, a_locals, a_specialValue, a_specialHas, a_printed, a_frames)) : wpX_storeForm post (f_openCount, f_typeCount, f_printedCount, f_depthLimit, f_fuelLimit, f_lastStatus, f_lastValue, f_lastError, f_lastDatum, f_lastPlace, f_beatsUsed, f_frameCount, f_mode, f_currentNode, f_currentEnv, f_result, f_calls, f_inForce, f_exitTarget, f_exitValue, f_exitType, f_exitPlace, a_nodeOp, a_nodeA, a_nodeB, a_nodeParts, a_nodeSize, a_slotSize, a_slotParams, a_openLists, a_typeParent, a_elements, a_locals, a_specialValue, a_specialHas, a_printed, a_frames) (nI f) := by
  have e : nI f * 56 = nI (56 * f) := by rw [show (56 : Int32) = nI 56 from rfl, pk_mul, Nat.mul_comm]
  refine nm_r e (nm_r hs ⟨cnt + 1, ?_⟩)
  have := xl_store16 (post := post) hf hc hp cnt 0 (cnt + 1) (by omega) (by omega)
  rw [fo_cp_0, fo_cp_0, fo_cp_0, fo_cp_0, fo_cp_0] at this
  exact this
theorem xl_def40 {post : Int32 → SX → Prop} {C : Nat → Nat} {f cnt : Nat} {p1 : Int32} (hf : f < 6) (hc : cnt ≤ 56) (hs : a_slotSize 6 = nI cnt) (hC : ∀ s, s < 6 → a_slotSize s = nI (C s) ∧ C s ≤ 56) : ∀ (d t s n : Nat), t + d = 6 → d < n → s + 56 * d ≤ 1000 → (s + fo_tot C f d t ≤ 200 → post 0 (0, f_typeCount, f_printedCount, f_depthLimit, f_fuelLimit, f_lastStatus, f_lastValue, f_lastError, f_lastDatum, f_lastPlace, f_beatsUsed, f_frameCount, f_mode, f_currentNode, f_currentEnv, f_result, f_calls, f_inForce, f_exitTarget, f_exitValue, f_exitType, f_exitPlace, fo_cp a_nodeOp f cnt, fo_cp a_nodeA f cnt, fo_cp a_nodeB f cnt, fo_cp a_nodeParts f cnt, fo_cp a_nodeSize f cnt, upd (upd a_slotSize f (nI cnt)) 6 0, upd a_slotParams f p1, a_openLists, a_typeParent, a_elements, a_locals, a_specialValue, a_specialHas, a_printed, a_frames)) → (200 < s + fo_tot C f d t → post 5 (f_openCount, f_typeCount, f_printedCount, f_depthLimit, f_fuelLimit, f_lastStatus, f_lastValue, f_lastError, f_lastDatum, f_lastPlace, f_beatsUsed, f_frameCount, f_mode, f_currentNode, f_currentEnv, f_result, f_calls, f_inForce, f_exitTarget, f_exitValue, f_exitType, f_exitPlace, a_nodeOp, a_nodeA, a_nodeB, a_nodeParts, a_nodeSize, a_slotSize, a_slotParams, a_openLists, a_typeParent, a_elements, a_locals, a_specialValue, a_specialHas, a_printed, a_frames)) → wX_define_40 post (nI f) p1 f_openCount f_typeCount f_printedCount f_depthLimit f_fuelLimit f_lastStatus f_lastValue f_lastError f_lastDatum f_lastPlace f_beatsUsed f_frameCount f_mode f_currentNode f_currentEnv f_result f_calls f_inForce f_exitTarget f_exitValue f_exitType f_exitPlace a_nodeOp a_nodeA a_nodeB a_nodeParts a_nodeSize a_slotSize a_slotParams a_openLists a_typeParent a_elements a_locals a_specialValue a_specialHas a_printed a_frames n (nI s) (nI t)
  | _, _, _, 0, _, h, _, _, _ => by omega
  | 0, t, s, n + 1, ht, _, hb, h1, h2 => by
    refine br_t (nI_le (a := 6) (by omega) (by omega)) (pk_le s 200 (fun z => ?_) (fun z => h2 z))
    refine xl_store hf hc hs ?_
    refine ⟨vp_in_nI (by omega) (by decide), nm_e ?_⟩
    rw [nI_clamp (by omega)]
    exact nm_e (h1 z)
  | d + 1, t, s, n + 1, ht, hn, hb, h1, h2 => by
    refine br_f (nI_ge (b := 6) (by omega) (by decide)) ?_
    have g1 : s + ((if t = f then 0 else C t) + fo_tot C f d (t + 1)) ≤ 200 → _ := h1
    have g2 : 200 < s + ((if t = f then 0 else C t) + fo_tot C f d (t + 1)) → _ := h2
    refine pk_eq t f (fun z => ?_) (fun z => ?_)
    · rw [if_pos z, Nat.zero_add] at g1 g2
      exact nm_r (Int32.add_zero _) (nm_r (nI_1 t) (xl_def40 hf hc hs hC d (t + 1) s n (by omega) (by omega) (by omega) g1 g2))
    · rw [if_neg z, ← Nat.add_assoc] at g1 g2
      refine ⟨vp_in_nI (by omega) (by decide), ?_⟩
      rw [nI_clamp (by omega), (hC t (by omega)).1]
      have := (hC t (by omega)).2
      exact nm_r (nI_add _ _) (nm_r (nI_1 t) (xl_def40 hf hc hs hC d (t + 1) (s + C t) n (by omega) (by omega) (by omega) g1 g2))
theorem yl_def102 {post : Int32 → SY → Prop} {f cnt : Nat} (hf : f < 6) (hc : cnt ≤ 56) (hs : h_count = nI cnt) (b1 : rl_Fb c_sort) (b2 : rl_Fb c_op) (b3 : rl_Fb c_na) (b4 : rl_Fb c_nb) (b5 : rl_Fb c_up) (hp : post 0 (h_depth, h_fuel, 0, (-1), h_types, h_sp, h_ret, h_xTarget, h_xVal, h_xType, h_xPlace, h_have, h_exiting, h_running, h_outcome, h_value, h_error, h_datum, h_place, h_beats, h_printed, fo_cp c_sort f cnt, fo_cp c_op f cnt, fo_cp c_na f cnt, fo_cp c_nb f cnt, fo_cp c_up f cnt, fo_cp c_val f cnt, c_size, c_params, c_parent, c_global, c_cells, c_locals, c_has, c_node, c_got, c_handle, c_pTarget, c_pPlace, c_act, c_mode, c_bVar, c_pType, c_v0, c_v1, c_v2, c_last, c_bVal, c_pVal, c_out)) : ∀ (d t n : Nat), t + d = cnt → d < n → wY_define_102 post (nI f) h_depth h_fuel h_count h_open h_types h_sp h_ret h_xTarget h_xVal h_xType h_xPlace h_have h_exiting h_running h_outcome h_value h_error h_datum h_place h_beats h_printed n (nI t) (fo_cp c_sort f t) (fo_cp c_op f t) (fo_cp c_na f t) (fo_cp c_nb f t) (fo_cp c_up f t) (fo_cp c_val f t) c_size c_params c_parent c_global c_cells c_locals c_has c_node c_got c_handle c_pTarget c_pPlace c_act c_mode c_bVar c_pType c_v0 c_v1 c_v2 c_last c_bVal c_pVal c_out
  | _, _, 0, _, h => by omega
  | 0, t, n + 1, ht, _ => by
    have e : t = cnt := by omega
    subst e
    exact br_t (by rw [hs]; exact nI_le (Nat.le_refl _) (by omega)) hp
  | d + 1, t, n + 1, ht, hn => by
    have i1 : vp_in (336 + nI t) 392 := by rw [fb_336]; exact vp_in_nI (by omega) (by decide)
    have i2 : vp_in (nI (56 * f + t)) 392 := vp_in_nI (by omega) (by decide)
    have e : (56 * nI f) + nI t = nI (56 * f + t) := by rw [show (56 : Int32) = nI 56 from rfl, pk_mul, nI_add]
    refine br_f (by rw [hs]; exact nI_ge (by omega) (by omega)) (nm_r e ?_)
    refine ⟨i1, i2, nm_r (fo_cp_y hf (by omega) b1) ⟨i1, i2, nm_r (fo_cp_y hf (by omega) b2) ⟨i1, i2, nm_r (fo_cp_y hf (by omega) b3) ⟨i1, i2, nm_r (fo_cp_y hf (by omega) b4) ⟨i1, i2, nm_r (fo_cp_y hf (by omega) b5) ⟨i1, i2, nm_r (fo_cp_z hf (by omega)) (nm_r (nI_1 t) ?_)⟩⟩⟩⟩⟩⟩
    exact yl_def102 hf hc hs b1 b2 b3 b4 b5 hp d (t + 1) n (by omega) (by omega)
theorem yl_def44 {post : Int32 → SY → Prop} {C : Nat → Nat} {f cnt : Nat} {p1 : Int32} (hf : f < 6) (hc : cnt ≤ 56) (hs : h_count = nI cnt) (b1 : rl_Fb c_sort) (b2 : rl_Fb c_op) (b3 : rl_Fb c_na) (b4 : rl_Fb c_nb) (b5 : rl_Fb c_up) (hC : ∀ s, s < 6 → c_size s = nI (C s) ∧ C s ≤ 56) : ∀ (d t s n : Nat), t + d = 6 → d < n → s + 56 * d ≤ 1000 → (s + fo_tot C f d t ≤ 200 → post 0 (h_depth, h_fuel, 0, (-1), h_types, h_sp, h_ret, h_xTarget, h_xVal, h_xType, h_xPlace, h_have, h_exiting, h_running, h_outcome, h_value, h_error, h_datum, h_place, h_beats, h_printed, fo_cp c_sort f cnt, fo_cp c_op f cnt, fo_cp c_na f cnt, fo_cp c_nb f cnt, fo_cp c_up f cnt, fo_cp c_val f cnt, upd c_size f (nI cnt), upd c_params f p1, c_parent, c_global, c_cells, c_locals, c_has, c_node, c_got, c_handle, c_pTarget, c_pPlace, c_act, c_mode, c_bVar, c_pType, c_v0, c_v1, c_v2, c_last, c_bVal, c_pVal, c_out)) → (200 < s + fo_tot C f d t → post 5 (h_depth, h_fuel, h_count, h_open, h_types, h_sp, h_ret, h_xTarget, h_xVal, h_xType, h_xPlace, h_have, h_exiting, h_running, h_outcome, h_value, h_error, h_datum, h_place, h_beats, h_printed, c_sort, c_op, c_na, c_nb, c_up, c_val, c_size, c_params, c_parent, c_global, c_cells, c_locals, c_has, c_node, c_got, c_handle, c_pTarget, c_pPlace, c_act, c_mode, c_bVar, c_pType, c_v0, c_v1, c_v2, c_last, c_bVal, c_pVal, c_out)) → wY_define_44 post (nI f) p1 h_depth h_fuel h_count h_open h_types h_sp h_ret h_xTarget h_xVal h_xType h_xPlace h_have h_exiting h_running h_outcome h_value h_error h_datum h_place h_beats h_printed c_sort c_op c_na c_nb c_up c_val c_size c_params c_parent c_global c_cells c_locals c_has c_node c_got c_handle c_pTarget c_pPlace c_act c_mode c_bVar c_pType c_v0 c_v1 c_v2 c_last c_bVal c_pVal c_out n (nI s) (nI t)
  | _, _, _, 0, _, h, _, _, _ => by omega
  | 0, t, s, n + 1, ht, _, hb, h1, h2 => by
    refine br_t (nI_le (a := 6) (by omega) (by omega)) (pk_le s 200 (fun z => ?_) (fun z => h2 z))
    refine ⟨vp_in_nI (by omega) (by decide), nm_e ⟨vp_in_nI (by omega) (by decide), nm_e ⟨cnt + 1, ?_⟩⟩⟩
    rw [nI_clamp (by omega), hs]
    have := yl_def102 (post := post) (h_count := nI cnt) (h_open := h_open) (c_size := upd c_size f (nI cnt)) (c_params := upd c_params f p1) hf hc rfl b1 b2 b3 b4 b5 (h1 z) cnt 0 (cnt + 1) (by omega) (by omega)
    rw [fo_cp_0, fo_cp_0, fo_cp_0, fo_cp_0, fo_cp_0, fo_cp_0] at this
    exact this
  | d + 1, t, s, n + 1, ht, hn, hb, h1, h2 => by
    refine br_f (nI_ge (b := 6) (by omega) (by decide)) ?_
    have g1 : s + ((if t = f then 0 else C t) + fo_tot C f d (t + 1)) ≤ 200 → _ := h1
    have g2 : 200 < s + ((if t = f then 0 else C t) + fo_tot C f d (t + 1)) → _ := h2
    refine pk_eq t f (fun z => ?_) (fun z => ?_)
    · rw [if_pos z, Nat.zero_add] at g1 g2
      exact nm_r (nI_1 t) (yl_def44 hf hc hs b1 b2 b3 b4 b5 hC d (t + 1) s n (by omega) (by omega) (by omega) g1 g2)
    · rw [if_neg z, ← Nat.add_assoc] at g1 g2
      refine ⟨vp_in_nI (by omega) (by decide), ?_⟩
      rw [nI_clamp (by omega), (hC t (by omega)).1]
      have := (hC t (by omega)).2
      exact nm_r (nI_add _ _) (nm_r (nI_1 t) (yl_def44 hf hc hs b1 b2 b3 b4 b5 hC d (t + 1) (s + C t) n (by omega) (by omega) (by omega) g1 g2))
end
theorem i_vc_define {k : Nat} {u : SX} {v : SY} (I : i_Rel k u v) (hk : k + 4 ≤ 2050) (v1 : Int32) (v2 : Int32) : wpX_define (fun r u' => wpY_define (fun r' v' => r' = r ∧ i_Rel (k + 4) u' v') v v1 v2) u v1 v2 := by
  obtain ⟨f_openCount, f_typeCount, f_printedCount, f_depthLimit, f_fuelLimit, f_lastStatus, f_lastValue, f_lastError, f_lastDatum, f_lastPlace, f_beatsUsed, f_frameCount, f_mode, f_currentNode, f_currentEnv, f_result, f_calls, f_inForce, f_exitTarget, f_exitValue, f_exitType, f_exitPlace, a_nodeOp, a_nodeA, a_nodeB, a_nodeParts, a_nodeSize, a_slotSize, a_slotParams, a_openLists, a_typeParent, a_elements, a_locals, a_specialValue, a_specialHas, a_printed, a_frames⟩ := u
  obtain ⟨h_depth, h_fuel, h_count, h_open, h_types, h_sp, h_ret, h_xTarget, h_xVal, h_xType, h_xPlace, h_have, h_exiting, h_running, h_outcome, h_value, h_error, h_datum, h_place, h_beats, h_printed, c_sort, c_op, c_na, c_nb, c_up, c_val, c_size, c_params, c_parent, c_global, c_cells, c_locals, c_has, c_node, c_got, c_handle, c_pTarget, c_pPlace, c_act, c_mode, c_bVar, c_pType, c_v0, c_v1, c_v2, c_last, c_bVal, c_pVal, c_out⟩ := v
  have I' := I
  obtain ⟨T, d, F, R1, R2, R3, R4, R5, R6, P, Z, O, A, C, ps, os, F1, F2, F3, F4, F5, F6, F7, F8, F9, F10, F11⟩ := I'
  have hc := F2.1
  subst F6 F7 F9
  unfold wpX_define
  dsimp only
  cases os with
  | cons o r =>
    obtain ⟨o1, _⟩ := F2.2.1.2.2 o (List.mem_cons_self ..)
    have hl : r.length + 1 ≤ 12 := F4
    have eo : nI (fo_q (o :: r)) - 1 = nI o := nI_pred o
    refine br_f (nI_ne0 (Nat.succ_pos _) (by simp only [List.length_cons]; omega)) (br_t rfl ?_)
    refine br_f (nI_ne0 (by omega) (by omega)) (br_f ?_ ⟨rfl, I⟩)
    rw [eo]; exact nI_pos (by omega)
  | nil =>
    refine br_t rfl ?_
    rw [F8]
    have hop : nI (fo_q []) - 1 < 0 := by decide
    refine pk_le (C 6) 0 (fun z => ?_) (fun z => ?_)
    · have e : nI (C 6) = 0 := by rw [Nat.le_zero.mp z]; rfl
      exact br_t rfl (br_t e ⟨rfl, I⟩)
    · have hc0 : ¬ nI (C 6) = 0 := nI_ne0 z (by omega)
      refine br_f (by decide) ?_
      by_cases a1 : v1 < 0
      · exact br_t a1 (br_t rfl (br_f hc0 (br_t hop (br_t a1 ⟨rfl, I⟩))))
      · refine br_f a1 ?_
        by_cases a2 : (6 : Int32) ≤ v1
        · have a3 : (5 : Int32) < v1 := Int32.lt_of_lt_of_le (by decide) a2
          exact br_t a2 (br_t rfl (br_f hc0 (br_t hop (br_f a1 (br_t a3 ⟨rfl, I⟩)))))
        · obtain ⟨f, hf, rfl⟩ := fb_lt 0 6 a1 a2 (by decide) (by decide)
          rw [Nat.zero_add] at *
          have a3 : ¬ (5 : Int32) < nI f := nI_nlt (b := f) (a := 5) (by omega) (by decide)
          refine br_f a2 (br_f (by decide) ?_)
          by_cases b1 : v2 < 0
          · exact br_t b1 (br_f hc0 (br_t hop (br_f a1 (br_f a3 (br_t b1 ⟨rfl, I⟩)))))
          · refine br_f b1 ?_
            by_cases b2 : v2 ≤ 3
            · obtain ⟨m, hm, rfl⟩ := nI_of2 (M := 3) (n := 3) (by decide) b1 b2
              refine br_t b2 (nm_e ⟨7, ?_⟩)
              have hX : ∀ s, s < 6 → a_slotSize s = nI (C s) ∧ C s ≤ 56 := fun s hs => ⟨(F1 s hs).2.1, (F1 s hs).1.1⟩
              have hY : ∀ s, s < 6 → c_size s = nI (C s) ∧ C s ≤ 56 := fun s hs => ⟨(F1 s hs).2.2.1, (F1 s hs).1.1⟩
              obtain ⟨f1, f2, f3, f4, f5⟩ := F11
              refine xl_def40 (C := C) hf hc F8 hX 6 0 (C 6) 7 (by omega) (by omega) (by omega) (fun z1 => ?_) (fun z1 => ?_)
              · refine br_f hc0 (br_t hop (br_f a1 (br_f a3 (br_f b1 (br_t b2 ⟨7, ?_⟩)))))
                refine yl_def44 (C := C) hf hc rfl f1 f2 f3 f4 f5 hY 6 0 (C 6) 7 (by omega) (by omega) (by omega) (fun _ => ?_) (fun z2 => by omega)
                refine ⟨rfl, T, d, F, R1, R2, R3, R4, R5, R6, fo_cp P f (C 6), fo_cp Z f (C 6), fo_cp O f (C 6), fo_cp A f (C 6), fo_up (fo_up C f (C 6)) 6 0, fo_up ps f m, [], fun s hs => ?_, ?_, trivial, by decide, trivial, rfl, rfl, ?_, ?_, fun o h => (by cases h), fo_cp_Fb f1, fo_cp_Fb f2, fo_cp_Fb f3, fo_cp_Fb f4, fo_cp_Fb f5⟩
                · rw [fo_un (by omega), pk_un (by omega)]
                  by_cases e : s = f
                  · subst e
                    rw [fo_us, pk_us, pk_us, pk_us, pk_us, fo_us]
                    refine ⟨fo_Slot_keep (b := 336) F2 (fun i hi => ⟨fo_cp_in hi, fo_cp_in hi, fo_cp_in hi, fo_cp_in hi, fo_cp_in hi, fo_cp_in hi, fo_cp_in hi, fo_cp_in hi, fo_cp_in hi, fo_cp_in hi, fo_cp_in hi⟩) (fun i hi => ⟨fo_cp_in hi, fo_cp_in hi, fo_cp_in hi, fo_cp_in hi⟩), rfl, rfl, rfl, rfl, hm⟩
                  · rw [fo_un e, pk_un e, pk_un e, pk_un e, pk_un e, fo_un e]
                    obtain ⟨H1, H2⟩ := F1 s hs
                    have hcs := H1.1
                    refine ⟨fo_Slot_keep H1 (fun i hi => ?_) (fun i hi => ?_), H2⟩
                    · have w : ¬ (56 * f ≤ 56 * s + i ∧ 56 * s + i < 56 * f + C 6) := by omega
                      exact ⟨fo_cp_out w, fo_cp_out w, fo_cp_out w, fo_cp_out w, fo_cp_out w, fo_cp_out w, fo_cp_out w, fo_cp_out w, fo_cp_out w, fo_cp_out w, fo_cp_out w⟩
                    · have w : ¬ (56 * f ≤ 56 * s + i ∧ 56 * s + i < 56 * f + C 6) := by omega
                      exact ⟨fo_cp_out w, fo_cp_out w, fo_cp_out w, fo_cp_out w⟩
                · rw [fo_us]
                  exact ⟨by decide, ⟨fun i h => absurd h (Nat.not_lt_zero _), fun i h => absurd h (Nat.not_lt_zero _), fun i h => by cases h⟩, fun i h => absurd h (Nat.not_lt_zero _), fun i h => absurd h (Nat.not_lt_zero _)⟩
                · rw [pk_us, fo_us]; rfl
                · rw [fo_us]; rfl
              · refine br_f hc0 (br_t hop (br_f a1 (br_f a3 (br_f b1 (br_t b2 ⟨7, ?_⟩)))))
                exact yl_def44 (C := C) hf hc rfl f1 f2 f3 f4 f5 hY 6 0 (C 6) 7 (by omega) (by omega) (by omega) (fun z2 => by omega) (fun _ => ⟨rfl, I⟩)
            · exact br_f b2 (br_f hc0 (br_t hop (br_f a1 (br_f a3 (br_f b1 (br_f b2 ⟨rfl, I⟩))))))
end
section
/-! open -/
def fo_RG (lo hi : Nat) (x : Int32) : Prop := ∃ a, lo ≤ a ∧ a < hi ∧ x = nI a
theorem fb_rg (x : Int32) (lo hi : Nat) (h : lo ≤ hi) (hh : hi < 2 ^ 31) {A B : Prop} (f : fo_RG lo hi x → A) (g : ¬ fo_RG lo hi x → B) : (x < nI lo → B) ∧ (¬ x < nI lo → ((nI hi ≤ x → B) ∧ (¬ nI hi ≤ x → A))) := by
  by_cases a1 : x < nI lo
  · refine br_t a1 (g ?_)
    rintro ⟨a, h1, h2, rfl⟩
    exact nI_nlt h1 (by omega) a1
  · refine br_f a1 ?_
    by_cases a2 : nI hi ≤ x
    · refine br_t a2 (g ?_)
      rintro ⟨a, h1, h2, rfl⟩
      exact nI_ge h2 hh a2
    · obtain ⟨j, hj, e⟩ := fb_lt lo hi a1 a2 hh h
      exact br_f a2 (f ⟨lo + j, by omega, by omega, e⟩)
theorem fb_rg' (x : Int32) (lo hi : Nat) (h : lo ≤ hi + 1) (hh : hi + 1 < 2 ^ 31) {A B : Prop} (f : fo_RG lo (hi + 1) x → A) (g : ¬ fo_RG lo (hi + 1) x → B) : (x < nI lo → B) ∧ (¬ x < nI lo → ((nI hi < x → B) ∧ (¬ nI hi < x → A))) := by
  obtain ⟨k1, k2⟩ := fb_rg x lo (hi + 1) h hh f g
  refine ⟨k1, fun z => ?_⟩
  by_cases a2 : nI hi < x
  · refine br_t a2 (g ?_)
    rintro ⟨a, h1, h2, rfl⟩
    exact nI_nlt (a := hi) (b := a) (by omega) (by omega) a2
  · refine br_f a2 ((k2 z).2 (fun w => a2 (Int32.lt_of_lt_of_le (nI_lt (Nat.lt_succ_self _) hh) w)))
def fo_fit (T : Nat) (O A : Nat → Nat) (os : List Nat) (o : Nat) (p1 p2 : Int32) : Prop :=
  if o = 8 then fo_RG 0 12 p1 else if o = 9 ∨ o = 26 then fo_RG 8 12 p1 else if o = 11 ∨ o = 19 then fo_RG 0 8 p1 else if o = 12 then ∃ a t, a < 8 ∧ p1 = nI a ∧ fo_fd O A a os = some t else if o = 16 ∨ o = 17 then fo_RG 1 (T + 1) p1 ∧ fo_RG 0 12 p2 else if o = 18 then fo_RG 0 8 p1 ∧ fo_RG 0 12 p2 else if o = 20 ∨ o = 21 then fo_RG 1 (T + 1) p1 else if o = 23 then fo_RG 0 6 p1 else if o = 24 ∨ o = 25 then fo_RG 0 4 p1 else True
theorem fo_lab (p1 : Int32) : ∃ lab, (∀ a, a < 8 → (nI a = p1 ↔ a = lab)) ∧ (lab < 8 → p1 = nI lab) := by
  by_cases h : fo_RG 0 8 p1
  · obtain ⟨a, _, h2, rfl⟩ := h
    exact ⟨a, fun b hb => nI_eq (by omega) (by omega), fun _ => rfl⟩
  · exact ⟨8, fun a ha => ⟨fun e => absurd ⟨a, Nat.zero_le _, ha, e.symm⟩ h, fun e => by omega⟩, fun e => by omega⟩
section
variable {f_openCount f_typeCount f_printedCount f_depthLimit f_fuelLimit f_lastStatus f_lastValue f_lastError f_lastDatum f_lastPlace f_beatsUsed f_frameCount f_mode f_currentNode f_currentEnv f_result f_calls f_inForce f_exitTarget f_exitValue f_exitType f_exitPlace : Int32} {a_nodeOp a_nodeA a_nodeB a_nodeParts a_nodeSize a_slotSize a_slotParams a_openLists a_typeParent a_elements a_locals a_specialValue a_specialHas a_printed a_frames : Nat → Int32} {h_depth h_fuel h_count h_open h_types h_sp h_ret h_xTarget h_xVal h_xType h_xPlace h_have h_exiting h_running h_outcome h_value h_error h_datum h_place h_beats h_printed : Int32} {c_sort c_op c_na c_nb c_up c_val c_size c_params c_parent c_global c_cells c_locals c_has c_node c_got c_handle c_pTarget c_pPlace c_act c_mode c_bVar c_pType c_v0 c_v1 c_v2 c_last c_bVal c_pVal c_out : Nat → Int32}
theorem xl_ba7 {post : Int32 → Prop} {O A : Nat → Nat} {p1 : Int32} {lab : Nat} : ∀ (os : List Nat) (n : Nat), os.length < n → os.length ≤ 12 → fo_OL a_openLists os → (∀ o, o ∈ os → o < 56 ∧ a_nodeOp (336 + o) = nI (O (336 + o)) ∧ O (336 + o) ≤ 28 ∧ (O (336 + o) = 11 → (a_nodeA (336 + o) = p1 ↔ A (336 + o) = lab))) → (∀ t, fo_fd O A lab os = some t → post (nI (336 + t))) → (fo_fd O A lab os = none → post (-1)) → wX_blockAround_7 post p1 f_openCount f_typeCount f_printedCount f_depthLimit f_fuelLimit f_lastStatus f_lastValue f_lastError f_lastDatum f_lastPlace f_beatsUsed f_frameCount f_mode f_currentNode f_currentEnv f_result f_calls f_inForce f_exitTarget f_exitValue f_exitType f_exitPlace a_nodeOp a_nodeA a_nodeB a_nodeParts a_nodeSize a_slotSize a_slotParams a_openLists a_typeParent a_elements a_locals a_specialValue a_specialHas a_printed a_frames n (nI os.length - 1)
  | _, 0, h, _, _, _, _, _ => by omega
  | [], n + 1, _, _, _, _, _, h0 => br_t (by decide) (h0 rfl)
  | o :: r, n + 1, hn, hl, hol, hN, h1, h0 => by
    have hn : r.length + 1 < n + 1 := hn
    have hl : r.length + 1 ≤ 12 := hl
    obtain ⟨o1, o2, o3, o4⟩ := hN o (List.mem_cons_self ..)
    have h1 : ∀ t, (if O (336 + o) = 11 ∧ A (336 + o) = lab then some o else fo_fd O A lab r) = some t → post (nI (336 + t)) := h1
    have h0 : (if O (336 + o) = 11 ∧ A (336 + o) = lab then some o else fo_fd O A lab r) = none → post (-1) := h0
    have el : nI (o :: r).length - 1 = nI r.length := nI_pred r.length
    rw [el]
    have em : nI r.length + (-1) = nI r.length - 1 := by rw [Int32.sub_eq_add_neg]
    refine br_f (nI_pos (by omega)) ⟨vp_in_nI (by omega) (by decide), ?_⟩
    rw [nI_clamp (by omega), hol.1]
    refine nm_e ?_
    rw [nI_clamp (by omega)]
    refine ⟨vp_in_nI (by omega) (by decide), ?_⟩
    rw [o2]
    refine pk_eq (O (336 + o)) 11 (fun z => ?_) (fun z => ?_)
    · refine ⟨vp_in_nI (by omega) (by decide), fb_if (o4 z) (fun w => ?_) (fun w => nm_r em ?_)⟩
      · exact h1 o (if_pos ⟨z, w⟩)
      · rw [if_neg (fun q => w q.2)] at h1 h0
        exact xl_ba7 r n (by omega) (by omega) hol.2 (fun q hq => hN q (List.mem_cons_of_mem _ hq)) h1 h0
    · refine nm_r em ?_
      rw [if_neg (fun q => z q.1)] at h1 h0
      exact xl_ba7 r n (by omega) (by omega) hol.2 (fun q hq => hN q (List.mem_cons_of_mem _ hq)) h1 h0
theorem yl_ba5 {post : Int32 → Prop} {P O A : Nat → Nat} {p1 : Int32} {b lab s : Nat} (hs : b = 56 * s) (hb : b + 56 ≤ 392) : ∀ (f p c n : Nat), c + f = 14 → f < n → p ≤ 56 → (∀ i, i < p → c_up (b + i) = nI (P (b + i)) - 1 ∧ P (b + i) ≤ i ∧ (O (b + i) ≤ 26 → c_op (b + i) = nI (O (b + i)) ∧ (O (b + i) = 11 → (c_na (b + i) = p1 ↔ A (b + i) = lab)))) → (∀ i, i + 1 = p → O (b + i) ≤ 26) → (∀ i, i < p → ∀ j, j + 1 = P (b + i) → O (b + j) ≤ 26) → (∀ t, fo_ba P O A b lab f p = some t → post (nI (b + t))) → (fo_ba P O A b lab f p = none → post (-1)) → wY_blockAround_5 post p1 h_depth h_fuel h_count h_open h_types h_sp h_ret h_xTarget h_xVal h_xType h_xPlace h_have h_exiting h_running h_outcome h_value h_error h_datum h_place h_beats h_printed c_sort c_op c_na c_nb c_up c_val c_size c_params c_parent c_global c_cells c_locals c_has c_node c_got c_handle c_pTarget c_pPlace c_act c_mode c_bVar c_pType c_v0 c_v1 c_v2 c_last c_bVal c_pVal c_out n (if p = 0 then -1 else nI (b + (p - 1))) (nI c)
  | _, _, _, 0, _, h, _, _, _, _, _, _ => by omega
  | 0, p, c, n + 1, hc, _, _, _, _, _, _, h0 => by
    have e : c = 14 := by omega
    subst e
    exact br_t (by decide) (h0 rfl)
  | f + 1, 0, c, n + 1, hc, hn, _, _, _, _, _, h0 => by
    rw [if_pos rfl]
    exact br_f (nI_ge (b := 14) (by omega) (by decide)) (br_t (by decide) (h0 rfl))
  | f + 1, i + 1, c, n + 1, hc, hn, hp, hN, hO, hPO, h1, h0 => by
    obtain ⟨u1, u2, u3⟩ := hN i (by omega)
    have hOi := hO i rfl
    obtain ⟨u4, u5⟩ := u3 hOi
    have h1 : ∀ t, (if O (b + i) = 11 ∧ A (b + i) = lab then some i else fo_ba P O A b lab f (P (b + i))) = some t → post (nI (b + t)) := h1
    have h0 : (if O (b + i) = 11 ∧ A (b + i) = lab then some i else fo_ba P O A b lab f (P (b + i))) = none → post (-1) := h0
    rw [if_neg (Nat.succ_ne_zero i), Nat.add_sub_cancel]
    have go : ¬ (O (b + i) = 11 ∧ A (b + i) = lab) → wY_blockAround_39 post (wY_blockAround_5 post p1 h_depth h_fuel h_count h_open h_types h_sp h_ret h_xTarget h_xVal h_xType h_xPlace h_have h_exiting h_running h_outcome h_value h_error h_datum h_place h_beats h_printed c_sort c_op c_na c_nb c_up c_val c_size c_params c_parent c_global c_cells c_locals c_has c_node c_got c_handle c_pTarget c_pPlace c_act c_mode c_bVar c_pType c_v0 c_v1 c_v2 c_last c_bVal c_pVal c_out n) p1 (nI (b + i)) (nI c) h_depth h_fuel h_count h_open h_types h_sp h_ret h_xTarget h_xVal h_xType h_xPlace h_have h_exiting h_running h_outcome h_value h_error h_datum h_place h_beats h_printed c_sort c_op c_na c_nb c_up c_val c_size c_params c_parent c_global c_cells c_locals c_has c_node c_got c_handle c_pTarget c_pPlace c_act c_mode c_bVar c_pType c_v0 c_v1 c_v2 c_last c_bVal c_pVal c_out := by
      intro hno
      rw [if_neg hno] at h1 h0
      have ih := yl_ba5 hs hb f (P (b + i)) (c + 1) n (by omega) (by omega) (by omega) (fun j hj => hN j (by omega)) (fun j hj => hPO i (by omega) j hj) (fun j hj => hPO j (by omega)) h1 h0
      refine ⟨vp_in_nI (by omega) (by decide), ?_⟩
      rw [nI_clamp (by omega), u1]
      refine fb_if (fb_upn (by omega)).2 (fun z => ?_) (fun z => ?_)
      · refine ⟨by decide, vp_in_nI (by omega) (by decide), nm_r (e' := nI (b + (P (b + i) - 1))) ?_ (nm_r (nI_1 c) ?_)⟩
        · rw [(fb_base s hs hb (by omega)).1]
          have : nI (P (b + i)) - 1 = nI (P (b + i) - 1) := pk_sub (b := 1) (by omega)
          rw [this, nI_add]
        · rw [if_neg (by omega)] at ih
          exact ih
      · refine nm_r (nI_1 c) ?_
        rw [if_pos (by omega)] at ih
        exact ih
    refine br_f (nI_ge (b := 14) (by omega) (by decide)) (br_f (nI_pos (by omega)) ⟨vp_in_nI (by omega) (by decide), ?_⟩)
    rw [nI_clamp (by omega), u4]
    refine pk_eq (O (b + i)) 11 (fun z => ?_) (fun z => go (fun w => z w.1))
    refine ⟨vp_in_nI (by omega) (by decide), fb_if (u5 z) (fun w => h1 i (if_pos ⟨z, w⟩)) (fun w => go (fun q => w q.2))⟩
theorem yl_dep {post : Int32 → SY → Prop} {P : Nat → Nat} {x1 x2 x3 : Int32} : ∀ (k c n : Nat) (r : List Nat), c + k = 11 → k < n → fo_Os P r → (∀ o, o ∈ r → o < 56 ∧ c_up (336 + o) = nI (P (336 + o)) - 1) → wY_open_69 post x1 x2 x3 (nI (fo_q (r.drop k)) - 1) h_depth h_fuel h_count h_open h_types h_sp h_ret h_xTarget h_xVal h_xType h_xPlace h_have h_exiting h_running h_outcome h_value h_error h_datum h_place h_beats h_printed c_sort c_op c_na c_nb c_up c_val c_size c_params c_parent c_global c_cells c_locals c_has c_node c_got c_handle c_pTarget c_pPlace c_act c_mode c_bVar c_pType c_v0 c_v1 c_v2 c_last c_bVal c_pVal c_out → wY_open_38 post x1 x2 x3 h_depth h_fuel h_count h_open h_types h_sp h_ret h_xTarget h_xVal h_xType h_xPlace h_have h_exiting h_running h_outcome h_value h_error h_datum h_place h_beats h_printed c_sort c_op c_na c_nb c_up c_val c_size c_params c_parent c_global c_cells c_locals c_has c_node c_got c_handle c_pTarget c_pPlace c_act c_mode c_bVar c_pType c_v0 c_v1 c_v2 c_last c_bVal c_pVal c_out n (nI (fo_q r) - 1) (nI c)
  | _, _, 0, _, _, h, _, _, _ => by omega
  | 0, c, n + 1, r, hc, _, _, _, hp => by
    have e : c = 11 := by omega
    subst e
    exact br_t (by decide) hp
  | k + 1, c, n + 1, [], hc, hn, _, _, hp => br_f (nI_ge (b := 11) (by omega) (by decide)) (br_t (by decide) hp)
  | k + 1, c, n + 1, o :: r, hc, hn, S, hu, hp => by
    obtain ⟨o1, o2⟩ := hu o (List.mem_cons_self ..)
    have e : nI (fo_q (o :: r)) - 1 = nI o := nI_pred o
    have hr : P (336 + o) = fo_q r := by
      cases r with
      | nil => exact S.1
      | cons o' r' => exact S.1.1
    rw [e]
    refine br_f (nI_ge (b := 11) (by omega) (by decide)) (br_f (nI_pos (by omega)) ?_)
    rw [fb_336]
    refine ⟨vp_in_nI (by omega) (by decide), ?_⟩
    rw [nI_clamp (by omega), o2, hr]
    exact nm_e (nm_r (nI_1 c) (yl_dep k (c + 1) n r (by omega) (by omega) S.2 (fun q hq => hu q (List.mem_cons_of_mem _ hq)) hp))
end
end
section
/-! open, continued -/
theorem fb_rgY (x : Int32) (lo hi : Nat) (h : lo ≤ hi + 1) (hh : hi + 1 < 2 ^ 31) {A B : Prop} (f : fo_RG lo (hi + 1) x → A) (g : ¬ fo_RG lo (hi + 1) x → B) : (x < nI lo → B) ∧ (¬ x < nI lo → ((x ≤ nI hi → A) ∧ (¬ x ≤ nI hi → B))) := by
  obtain ⟨k1, k2⟩ := fb_rg' x lo hi h hh f g
  refine ⟨k1, fun z => ⟨fun w => (k2 z).2 (fun q => absurd (Int32.lt_of_lt_of_le q w) Int32.lt_irrefl), fun w => (k2 z).1 (Int32.not_le.mp w)⟩⟩
section
variable {f_openCount f_typeCount f_printedCount f_depthLimit f_fuelLimit f_lastStatus f_lastValue f_lastError f_lastDatum f_lastPlace f_beatsUsed f_frameCount f_mode f_currentNode f_currentEnv f_result f_calls f_inForce f_exitTarget f_exitValue f_exitType f_exitPlace : Int32} {a_nodeOp a_nodeA a_nodeB a_nodeParts a_nodeSize a_slotSize a_slotParams a_openLists a_typeParent a_elements a_locals a_specialValue a_specialHas a_printed a_frames : Nat → Int32} {h_depth h_fuel h_count h_open h_types h_sp h_ret h_xTarget h_xVal h_xType h_xPlace h_have h_exiting h_running h_outcome h_value h_error h_datum h_place h_beats h_printed : Int32} {c_sort c_op c_na c_nb c_up c_val c_size c_params c_parent c_global c_cells c_locals c_has c_node c_got c_handle c_pTarget c_pPlace c_act c_mode c_bVar c_pType c_v0 c_v1 c_v2 c_last c_bVal c_pVal c_out : Nat → Int32}
theorem xl_fit {post : Int32 → Prop} {O A : Nat → Nat} {os : List Nat} {T o : Nat} {p1 p2 : Int32} (ho : o ≤ 26) (hT : f_typeCount = nI T) (hT2 : T ≤ 15) (hba : ((∃ a t, a < 8 ∧ p1 = nI a ∧ fo_fd O A a os = some t) → post 1) → (¬ (∃ a t, a < 8 ∧ p1 = nI a ∧ fo_fd O A a os = some t) → post 0) → wpX_blockAround (fun r_16 => (((r_16 = (-1) → (post 0)) ∧ (¬ r_16 = (-1) → (post 1))))) (f_openCount, f_typeCount, f_printedCount, f_depthLimit, f_fuelLimit, f_lastStatus, f_lastValue, f_lastError, f_lastDatum, f_lastPlace, f_beatsUsed, f_frameCount, f_mode, f_currentNode, f_currentEnv, f_result, f_calls, f_inForce, f_exitTarget, f_exitValue, f_exitType, f_exitPlace, a_nodeOp, a_nodeA, a_nodeB, a_nodeParts, a_nodeSize, a_slotSize, a_slotParams, a_openLists, a_typeParent, a_elements, a_locals, a_specialValue, a_specialHas, a_printed, a_frames) p1) : (fo_fit T O A os o p1 p2 → post 1) → (¬ fo_fit T O A os o p1 p2 → post 0) → wpX_operandsFit post (f_openCount, f_typeCount, f_printedCount, f_depthLimit, f_fuelLimit, f_lastStatus, f_lastValue, f_lastError, f_lastDatum, f_lastPlace, f_beatsUsed, f_frameCount, f_mode, f_currentNode, f_currentEnv, f_result, f_calls, f_inForce, f_exitTarget, f_exitValue, f_exitType, f_exitPlace, a_nodeOp, a_nodeA, a_nodeB, a_nodeParts, a_nodeSize, a_slotSize, a_slotParams, a_openLists, a_typeParent, a_elements, a_locals, a_specialValue, a_specialHas, a_printed, a_frames) (nI o) p1 p2 := by
  subst hT
  refine fo_27 (Q := fun o => (fo_fit T O A os o p1 p2 → post 1) → (¬ fo_fit T O A os o p1 p2 → post 0) → wpX_operandsFit post (f_openCount, nI T, f_printedCount, f_depthLimit, f_fuelLimit, f_lastStatus, f_lastValue, f_lastError, f_lastDatum, f_lastPlace, f_beatsUsed, f_frameCount, f_mode, f_currentNode, f_currentEnv, f_result, f_calls, f_inForce, f_exitTarget, f_exitValue, f_exitType, f_exitPlace, a_nodeOp, a_nodeA, a_nodeB, a_nodeParts, a_nodeSize, a_slotSize, a_slotParams, a_openLists, a_typeParent, a_elements, a_locals, a_specialValue, a_specialHas, a_printed, a_frames) (nI o) p1 p2) ho ?_ ?_ ?_ ?_ ?_ ?_ ?_ ?_ ?_ ?_ ?_ ?_ ?_ ?_ ?_ ?_ ?_ ?_ ?_ ?_ ?_ ?_ ?_ ?_ ?_ ?_ ?_
  · intro h1 h0
    repeat' first | refine br_t (by decide) ?_ | refine br_f (by decide) ?_ | fail
    exact h1 trivial
  · intro h1 h0
    repeat' first | refine br_t (by decide) ?_ | refine br_f (by decide) ?_ | fail
    exact h1 trivial
  · intro h1 h0
    repeat' first | refine br_t (by decide) ?_ | refine br_f (by decide) ?_ | fail
    exact h1 trivial
  · intro h1 h0
    repeat' first | refine br_t (by decide) ?_ | refine br_f (by decide) ?_ | fail
    exact h1 trivial
  · intro h1 h0
    repeat' first | refine br_t (by decide) ?_ | refine br_f (by decide) ?_ | fail
    exact h1 trivial
  · intro h1 h0
    repeat' first | refine br_t (by decide) ?_ | refine br_f (by decide) ?_ | fail
    exact h1 trivial
  · intro h1 h0
    repeat' first | refine br_t (by decide) ?_ | refine br_f (by decide) ?_ | fail
    exact h1 trivial
  · intro h1 h0
    repeat' first | refine br_t (by decide) ?_ | refine br_f (by decide) ?_ | fail
    exact h1 trivial
  · intro h1 h0
    repeat' first | refine br_t (by decide) ?_ | refine br_f (by decide) ?_ | fail
    exact fb_rg p1 0 12 (by decide) (by decide) (fun h => ⟨rfl, h1 h⟩) (fun h => ⟨rfl, h0 h⟩)
  · intro h1 h0
    repeat' first | refine br_t (by decide) ?_ | refine br_f (by decide) ?_ | fail
    exact fb_rg p1 8 12 (by decide) (by decide) (fun h => ⟨rfl, h1 h⟩) (fun h => ⟨rfl, h0 h⟩)
  · intro h1 h0
    repeat' first | refine br_t (by decide) ?_ | refine br_f (by decide) ?_ | fail
    exact h1 trivial
  · intro h1 h0
    repeat' first | refine br_t (by decide) ?_ | refine br_f (by decide) ?_ | fail
    exact fb_rg p1 0 8 (by decide) (by decide) (fun h => ⟨rfl, h1 h⟩) (fun h => ⟨rfl, h0 h⟩)
  · intro h1 h0
    repeat' first | refine br_t (by decide) ?_ | refine br_f (by decide) ?_ | fail
    exact hba h1 h0
  · intro h1 h0
    repeat' first | refine br_t (by decide) ?_ | refine br_f (by decide) ?_ | fail
    exact h1 trivial
  · intro h1 h0
    repeat' first | refine br_t (by decide) ?_ | refine br_f (by decide) ?_ | fail
    exact h1 trivial
  · intro h1 h0
    repeat' first | refine br_t (by decide) ?_ | refine br_f (by decide) ?_ | fail
    exact h1 trivial
  · intro h1 h0
    repeat' first | refine br_t (by decide) ?_ | refine br_f (by decide) ?_ | fail
    exact fb_rg' p1 1 T (by omega) (by omega) (fun h => br_f (by decide) (fb_rg p2 0 12 (by decide) (by decide) (fun g => br_f (by decide) (h1 ⟨h, g⟩)) (fun g => br_t rfl (h0 (fun z => g z.2))))) (fun h => br_t rfl (h0 (fun z => h z.1)))
  · intro h1 h0
    repeat' first | refine br_t (by decide) ?_ | refine br_f (by decide) ?_ | fail
    exact fb_rg' p1 1 T (by omega) (by omega) (fun h => br_f (by decide) (fb_rg p2 0 12 (by decide) (by decide) (fun g => br_f (by decide) (h1 ⟨h, g⟩)) (fun g => br_t rfl (h0 (fun z => g z.2))))) (fun h => br_t rfl (h0 (fun z => h z.1)))
  · intro h1 h0
    repeat' first | refine br_t (by decide) ?_ | refine br_f (by decide) ?_ | fail
    exact fb_rg p1 0 8 (by decide) (by decide) (fun h => br_f (by decide) (fb_rg p2 0 12 (by decide) (by decide) (fun g => br_f (by decide) (h1 ⟨h, g⟩)) (fun g => br_t rfl (h0 (fun z => g z.2))))) (fun h => br_t rfl (h0 (fun z => h z.1)))
  · intro h1 h0
    repeat' first | refine br_t (by decide) ?_ | refine br_f (by decide) ?_ | fail
    exact fb_rg p1 0 8 (by decide) (by decide) (fun h => ⟨rfl, h1 h⟩) (fun h => ⟨rfl, h0 h⟩)
  · intro h1 h0
    repeat' first | refine br_t (by decide) ?_ | refine br_f (by decide) ?_ | fail
    exact fb_rg' p1 1 T (by omega) (by omega) (fun h => ⟨rfl, h1 h⟩) (fun h => ⟨rfl, h0 h⟩)
  · intro h1 h0
    repeat' first | refine br_t (by decide) ?_ | refine br_f (by decide) ?_ | fail
    exact fb_rg' p1 1 T (by omega) (by omega) (fun h => ⟨rfl, h1 h⟩) (fun h => ⟨rfl, h0 h⟩)
  · intro h1 h0
    repeat' first | refine br_t (by decide) ?_ | refine br_f (by decide) ?_ | fail
    exact h1 trivial
  · intro h1 h0
    repeat' first | refine br_t (by decide) ?_ | refine br_f (by decide) ?_ | fail
    exact fb_rg p1 0 6 (by decide) (by decide) (fun h => ⟨rfl, h1 h⟩) (fun h => ⟨rfl, h0 h⟩)
  · intro h1 h0
    repeat' first | refine br_t (by decide) ?_ | refine br_f (by decide) ?_ | fail
    exact fb_rg p1 0 4 (by decide) (by decide) (fun h => ⟨rfl, h1 h⟩) (fun h => ⟨rfl, h0 h⟩)
  · intro h1 h0
    repeat' first | refine br_t (by decide) ?_ | refine br_f (by decide) ?_ | fail
    exact fb_rg p1 0 4 (by decide) (by decide) (fun h => ⟨rfl, h1 h⟩) (fun h => ⟨rfl, h0 h⟩)
  · intro h1 h0
    repeat' first | refine br_t (by decide) ?_ | refine br_f (by decide) ?_ | fail
    exact fb_rg p1 8 12 (by decide) (by decide) (fun h => ⟨rfl, h1 h⟩) (fun h => ⟨rfl, h0 h⟩)
theorem yl_fit {post : Int32 → Prop} {O A : Nat → Nat} {os : List Nat} {T o : Nat} {p1 p2 : Int32} (ho : o ≤ 26) (hT : h_types = nI T) (hT2 : T ≤ 15) (hba : ((∃ a t, a < 8 ∧ p1 = nI a ∧ fo_fd O A a os = some t) → post 1) → (¬ (∃ a t, a < 8 ∧ p1 = nI a ∧ fo_fd O A a os = some t) → post 0) → ((0 ≤ h_open → (wY_operandsFit_93 post 12 p1 (336 + h_open) h_depth h_fuel h_count h_open h_types h_sp h_ret h_xTarget h_xVal h_xType h_xPlace h_have h_exiting h_running h_outcome h_value h_error h_datum h_place h_beats h_printed c_sort c_op c_na c_nb c_up c_val c_size c_params c_parent c_global c_cells c_locals c_has c_node c_got c_handle c_pTarget c_pPlace c_act c_mode c_bVar c_pType c_v0 c_v1 c_v2 c_last c_bVal c_pVal c_out)) ∧ (¬ 0 ≤ h_open → (wY_operandsFit_93 post 12 p1 (-1) h_depth h_fuel h_count h_open h_types h_sp h_ret h_xTarget h_xVal h_xType h_xPlace h_have h_exiting h_running h_outcome h_value h_error h_datum h_place h_beats h_printed c_sort c_op c_na c_nb c_up c_val c_size c_params c_parent c_global c_cells c_locals c_has c_node c_got c_handle c_pTarget c_pPlace c_act c_mode c_bVar c_pType c_v0 c_v1 c_v2 c_last c_bVal c_pVal c_out)))) : (fo_fit T O A os o p1 p2 → post 1) → (¬ fo_fit T O A os o p1 p2 → post 0) → wpY_operandsFit post (h_depth, h_fuel, h_count, h_open, h_types, h_sp, h_ret, h_xTarget, h_xVal, h_xType, h_xPlace, h_have, h_exiting, h_running, h_outcome, h_value, h_error, h_datum, h_place, h_beats, h_printed, c_sort, c_op, c_na, c_nb, c_up, c_val, c_size, c_params, c_parent, c_global, c_cells, c_locals, c_has, c_node, c_got, c_handle, c_pTarget, c_pPlace, c_act, c_mode, c_bVar, c_pType, c_v0, c_v1, c_v2, c_last, c_bVal, c_pVal, c_out) (nI o) p1 p2 := by
  subst hT
  refine fo_27 (Q := fun o => (fo_fit T O A os o p1 p2 → post 1) → (¬ fo_fit T O A os o p1 p2 → post 0) → wpY_operandsFit post (h_depth, h_fuel, h_count, h_open, nI T, h_sp, h_ret, h_xTarget, h_xVal, h_xType, h_xPlace, h_have, h_exiting, h_running, h_outcome, h_value, h_error, h_datum, h_place, h_beats, h_printed, c_sort, c_op, c_na, c_nb, c_up, c_val, c_size, c_params, c_parent, c_global, c_cells, c_locals, c_has, c_node, c_got, c_handle, c_pTarget, c_pPlace, c_act, c_mode, c_bVar, c_pType, c_v0, c_v1, c_v2, c_last, c_bVal, c_pVal, c_out) (nI o) p1 p2) ho ?_ ?_ ?_ ?_ ?_ ?_ ?_ ?_ ?_ ?_ ?_ ?_ ?_ ?_ ?_ ?_ ?_ ?_ ?_ ?_ ?_ ?_ ?_ ?_ ?_ ?_ ?_
  · intro h1 h0
    repeat' first | refine br_t (by decide) ?_ | refine br_f (by decide) ?_ | fail
    exact h1 trivial
  · intro h1 h0
    repeat' first | refine br_t (by decide) ?_ | refine br_f (by decide) ?_ | fail
    exact h1 trivial
  · intro h1 h0
    repeat' first | refine br_t (by decide) ?_ | refine br_f (by decide) ?_ | fail
    exact h1 trivial
  · intro h1 h0
    repeat' first | refine br_t (by decide) ?_ | refine br_f (by decide) ?_ | fail
    exact h1 trivial
  · intro h1 h0
    repeat' first | refine br_t (by decide) ?_ | refine br_f (by decide) ?_ | fail
    exact h1 trivial
  · intro h1 h0
    repeat' first | refine br_t (by decide) ?_ | refine br_f (by decide) ?_ | fail
    exact h1 trivial
  · intro h1 h0
    repeat' first | refine br_t (by decide) ?_ | refine br_f (by decide) ?_ | fail
    exact h1 trivial
  · intro h1 h0
    repeat' first | refine br_t (by decide) ?_ | refine br_f (by decide) ?_ | fail
    exact h1 trivial
  · intro h1 h0
    repeat' first | refine br_t (by decide) ?_ | refine br_f (by decide) ?_ | fail
    exact fb_rg' p1 0 11 (by decide) (by decide) h1 h0
  · intro h1 h0
    repeat' first | refine br_t (by decide) ?_ | refine br_f (by decide) ?_ | fail
    exact fb_rg' p1 8 11 (by decide) (by decide) h1 h0
  · intro h1 h0
    repeat' first | refine br_t (by decide) ?_ | refine br_f (by decide) ?_ | fail
    exact h1 trivial
  · intro h1 h0
    repeat' first | refine br_t (by decide) ?_ | refine br_f (by decide) ?_ | fail
    exact fb_rg' p1 0 7 (by decide) (by decide) h1 h0
  · intro h1 h0
    repeat' first | refine br_t (by decide) ?_ | refine br_f (by decide) ?_ | fail
    exact hba h1 h0
  · intro h1 h0
    repeat' first | refine br_t (by decide) ?_ | refine br_f (by decide) ?_ | fail
    exact h1 trivial
  · intro h1 h0
    repeat' first | refine br_t (by decide) ?_ | refine br_f (by decide) ?_ | fail
    exact h1 trivial
  · intro h1 h0
    repeat' first | refine br_t (by decide) ?_ | refine br_f (by decide) ?_ | fail
    exact h1 trivial
  · intro h1 h0
    repeat' first | refine br_t (by decide) ?_ | refine br_f (by decide) ?_ | fail
    refine fb_rgY p2 0 11 (by decide) (by decide) (fun g => ?_) (fun g => h0 (fun z => g z.2))
    repeat' first | refine br_t (by decide) ?_ | refine br_f (by decide) ?_ | fail
    exact fb_rg' p1 1 T (by omega) (by omega) (fun h => h1 ⟨h, g⟩) (fun h => h0 (fun z => h z.1))
  · intro h1 h0
    repeat' first | refine br_t (by decide) ?_ | refine br_f (by decide) ?_ | fail
    refine fb_rgY p2 0 11 (by decide) (by decide) (fun g => ?_) (fun g => h0 (fun z => g z.2))
    repeat' first | refine br_t (by decide) ?_ | refine br_f (by decide) ?_ | fail
    exact fb_rg' p1 1 T (by omega) (by omega) (fun h => h1 ⟨h, g⟩) (fun h => h0 (fun z => h z.1))
  · intro h1 h0
    repeat' first | refine br_t (by decide) ?_ | refine br_f (by decide) ?_ | fail
    refine fb_rgY p2 0 11 (by decide) (by decide) (fun g => ?_) (fun g => h0 (fun z => g z.2))
    repeat' first | refine br_t (by decide) ?_ | refine br_f (by decide) ?_ | fail
    exact fb_rg' p1 0 7 (by decide) (by decide) (fun h => h1 ⟨h, g⟩) (fun h => h0 (fun z => h z.1))
  · intro h1 h0
    repeat' first | refine br_t (by decide) ?_ | refine br_f (by decide) ?_ | fail
    exact fb_rg' p1 0 7 (by decide) (by decide) h1 h0
  · intro h1 h0
    repeat' first | refine br_t (by decide) ?_ | refine br_f (by decide) ?_ | fail
    exact fb_rg' p1 1 T (by omega) (by omega) h1 h0
  · intro h1 h0
    repeat' first | refine br_t (by decide) ?_ | refine br_f (by decide) ?_ | fail
    exact fb_rg' p1 1 T (by omega) (by omega) h1 h0
  · intro h1 h0
    repeat' first | refine br_t (by decide) ?_ | refine br_f (by decide) ?_ | fail
    exact h1 trivial
  · intro h1 h0
    repeat' first | refine br_t (by decide) ?_ | refine br_f (by decide) ?_ | fail
    have K := fb_rg' p1 0 5 (by decide) (by decide) h1 h0
    exact ⟨K.1, fun z => br_t (by decide) (K.2 z)⟩
  · intro h1 h0
    repeat' first | refine br_t (by decide) ?_ | refine br_f (by decide) ?_ | fail
    have K := fb_rg' p1 0 3 (by decide) (by decide) h1 h0
    exact ⟨K.1, fun z => br_f (by decide) (K.2 z)⟩
  · intro h1 h0
    repeat' first | refine br_t (by decide) ?_ | refine br_f (by decide) ?_ | fail
    have K := fb_rg' p1 0 3 (by decide) (by decide) h1 h0
    exact ⟨K.1, fun z => br_f (by decide) (K.2 z)⟩
  · intro h1 h0
    repeat' first | refine br_t (by decide) ?_ | refine br_f (by decide) ?_ | fail
    exact fb_rg' p1 8 11 (by decide) (by decide) h1 h0
end
end
section
/-! open: the whole -/
theorem fo_upQ {os : List Nat} (h : ∀ o, o ∈ os → o < 56) : fo_q os ≤ 56 := by
  cases os with
  | nil => exact Nat.zero_le _
  | cons o r => have := h o (List.mem_cons_self ..); exact this
theorem fo_fit_a {T o : Nat} {O A : Nat → Nat} {os : List Nat} {p1 p2 : Int32} (ho : o ≤ 26) (hT : T ≤ 15) : fo_fit T O A os o p1 p2 → ∃ a, a < 16 ∧ fo_ar T o a ∧ (fo_ma o → p1 = nI a) ∧ (16 ≤ o → o ≤ 18 → fo_RG 0 12 p2) ∧ (o = 12 → ∃ t, fo_fd O A a os = some t) := by
  intro h
  have no : ∀ {p : Prop}, (¬ p) → p → False := fun a b => a b
  unfold fo_fit at h
  by_cases c1 : o = 8
  · rw [if_pos c1] at h
    obtain ⟨a, g1, g2, g3⟩ := h
    exact ⟨a, by omega, ⟨fun _ => g2, fun e => by omega, fun e => by omega, fun e => by omega, fun e => by omega, fun e => by omega⟩, fun _ => g3, fun e _ => by omega, fun e => by omega⟩
  rw [if_neg c1] at h
  by_cases c2 : o = 9 ∨ o = 26
  · rw [if_pos c2] at h
    obtain ⟨a, g1, g2, g3⟩ := h
    exact ⟨a, by omega, ⟨fun e => by omega, fun _ => ⟨g1, g2⟩, fun e => by omega, fun e => by omega, fun e => by omega, fun e => by omega⟩, fun _ => g3, fun e _ => by omega, fun e => by omega⟩
  rw [if_neg c2] at h
  by_cases c3 : o = 11 ∨ o = 19
  · rw [if_pos c3] at h
    obtain ⟨a, g1, g2, g3⟩ := h
    exact ⟨a, by omega, ⟨fun e => by omega, fun e => by omega, fun _ => g2, fun e => by omega, fun e => by omega, fun e => by omega⟩, fun _ => g3, fun e _ => by omega, fun e => by omega⟩
  rw [if_neg c3] at h
  by_cases c4 : o = 12
  · rw [if_pos c4] at h
    obtain ⟨a, t, g2, g3, g4⟩ := h
    exact ⟨a, by omega, ⟨fun e => by omega, fun e => by omega, fun _ => g2, fun e => by omega, fun e => by omega, fun e => by omega⟩, fun _ => g3, fun e _ => by omega, fun _ => ⟨t, g4⟩⟩
  rw [if_neg c4] at h
  by_cases c5 : o = 16 ∨ o = 17
  · rw [if_pos c5] at h
    obtain ⟨⟨a, g1, g2, g3⟩, g4⟩ := h
    exact ⟨a, by omega, ⟨fun e => by omega, fun e => by omega, fun e => by omega, fun _ => ⟨g1, by omega⟩, fun e => by omega, fun e => by omega⟩, fun _ => g3, fun _ _ => g4, fun e => by omega⟩
  rw [if_neg c5] at h
  by_cases c6 : o = 18
  · rw [if_pos c6] at h
    obtain ⟨⟨a, g1, g2, g3⟩, g4⟩ := h
    exact ⟨a, by omega, ⟨fun e => by omega, fun e => by omega, fun _ => g2, fun e => by omega, fun e => by omega, fun e => by omega⟩, fun _ => g3, fun _ _ => g4, fun e => by omega⟩
  rw [if_neg c6] at h
  by_cases c7 : o = 20 ∨ o = 21
  · rw [if_pos c7] at h
    obtain ⟨a, g1, g2, g3⟩ := h
    exact ⟨a, by omega, ⟨fun e => by omega, fun e => by omega, fun e => by omega, fun _ => ⟨g1, by omega⟩, fun e => by omega, fun e => by omega⟩, fun _ => g3, fun e _ => by omega, fun e => by omega⟩
  rw [if_neg c7] at h
  by_cases c8 : o = 23
  · rw [if_pos c8] at h
    obtain ⟨a, g1, g2, g3⟩ := h
    exact ⟨a, by omega, ⟨fun e => by omega, fun e => by omega, fun e => by omega, fun e => by omega, fun _ => g2, fun e => by omega⟩, fun _ => g3, fun e _ => by omega, fun e => by omega⟩
  rw [if_neg c8] at h
  by_cases c9 : o = 24 ∨ o = 25
  · rw [if_pos c9] at h
    obtain ⟨a, g1, g2, g3⟩ := h
    exact ⟨a, by omega, ⟨fun e => by omega, fun e => by omega, fun e => by omega, fun e => by omega, fun e => by omega, fun _ => g2⟩, fun _ => g3, fun e _ => by omega, fun e => by omega⟩
  · refine ⟨0, by omega, ⟨fun e => by omega, fun e => by omega, fun e => by omega, fun e => by omega, fun e => by omega, fun e => by omega⟩, fun e => ?_, fun e _ => by omega, fun e => by omega⟩
    unfold fo_ma at e
    omega
theorem i_vc_open {k : Nat} {u : SX} {v : SY} (I : i_Rel k u v) (hk : k + 4 ≤ 2050) (v1 : Int32) (v2 : Int32) (v3 : Int32) : wpX_open (fun r u' => wpY_open (fun r' v' => r' = r ∧ i_Rel (k + 4) u' v') v v1 v2 v3) u v1 v2 v3 := by
  obtain ⟨f_openCount, f_typeCount, f_printedCount, f_depthLimit, f_fuelLimit, f_lastStatus, f_lastValue, f_lastError, f_lastDatum, f_lastPlace, f_beatsUsed, f_frameCount, f_mode, f_currentNode, f_currentEnv, f_result, f_calls, f_inForce, f_exitTarget, f_exitValue, f_exitType, f_exitPlace, a_nodeOp, a_nodeA, a_nodeB, a_nodeParts, a_nodeSize, a_slotSize, a_slotParams, a_openLists, a_typeParent, a_elements, a_locals, a_specialValue, a_specialHas, a_printed, a_frames⟩ := u
  obtain ⟨h_depth, h_fuel, h_count, h_open, h_types, h_sp, h_ret, h_xTarget, h_xVal, h_xType, h_xPlace, h_have, h_exiting, h_running, h_outcome, h_value, h_error, h_datum, h_place, h_beats, h_printed, c_sort, c_op, c_na, c_nb, c_up, c_val, c_size, c_params, c_parent, c_global, c_cells, c_locals, c_has, c_node, c_got, c_handle, c_pTarget, c_pPlace, c_act, c_mode, c_bVar, c_pType, c_v0, c_v1, c_v2, c_last, c_bVal, c_pVal, c_out⟩ := v
  have I' := I
  obtain ⟨T, d, F, R1, R2, R3, R4, R5, R6, P, Z, O, A, C, ps, os, F1, F2, F3, F4, F5, F6, F7, F8, F9, F10, F11⟩ := I'
  obtain ⟨T1, T2, ⟨T3, T4, T5⟩, T6⟩ := R1
  have F2' := F2
  obtain ⟨s1, s2, s3, s4⟩ := F2'
  have hlt : ∀ o, o ∈ os → o < 56 := fun o ho => by have := (s2.2.2 o ho).1; omega
  have hlc : ∀ o, o ∈ os → o < C 6 := fun o ho => (s2.2.2 o ho).1
  have hq := fo_q_le s2
  obtain ⟨lab, l1, l2⟩ := fo_lab v2
  have hN11 : ∀ i, i < C 6 → O (336 + i) = 11 → (a_nodeA (336 + i) = v2 ↔ A (336 + i) = lab) ∧ (c_na (336 + i) = v2 ↔ A (336 + i) = lab) := by
    intro i hi e
    obtain ⟨_, _, _, _, _, _, n7, _⟩ := (s4 i hi).1
    obtain ⟨_, _, m3, m4, _⟩ := n7 (by omega)
    have a8 := m3.2.2.1 (by omega)
    obtain ⟨e1, e2⟩ := m4 (by unfold fo_ma; omega)
    rw [e1, e2]
    exact ⟨l1 _ a8, l1 _ a8⟩
  -- the two searches for a BLOCK
  have bX : ∀ post : Int32 → Prop, (∀ t, fo_fd O A lab os = some t → post (nI (336 + t))) → (fo_fd O A lab os = none → post (-1)) → wpX_blockAround post (f_openCount, f_typeCount, f_printedCount, f_depthLimit, f_fuelLimit, f_lastStatus, f_lastValue, f_lastError, f_lastDatum, f_lastPlace, f_beatsUsed, f_frameCount, f_mode, f_currentNode, f_currentEnv, f_result, f_calls, f_inForce, f_exitTarget, f_exitValue, f_exitType, f_exitPlace, a_nodeOp, a_nodeA, a_nodeB, a_nodeParts, a_nodeSize, a_slotSize, a_slotParams, a_openLists, a_typeParent, a_elements, a_locals, a_specialValue, a_specialHas, a_printed, a_frames) v2 := by
    intro post h1 h0
    refine nm_r (e' := nI os.length - 1) (by rw [F6]) ⟨os.length + 1, ?_⟩
    exact xl_ba7 (O := O) (A := A) (lab := lab) os (os.length + 1) (by omega) F4 F5 (fun o ho => ⟨hlt o ho, (s4 o (hlc o ho)).1.1, (s4 o (hlc o ho)).1.2.1, fun e => (hN11 o (hlc o ho) e).1⟩) h1 h0
  have hfd : fo_ba P O A 336 lab 14 (fo_q os) = fo_fd O A lab os := fo_fd_ba 14 os (by omega) F3
  have bY : ∀ post : Int32 → Prop, (∀ t, fo_fd O A lab os = some t → post (nI (336 + t))) → (fo_fd O A lab os = none → post (-1)) → wpY_blockAround post (h_depth, h_fuel, h_count, h_open, h_types, h_sp, h_ret, h_xTarget, h_xVal, h_xType, h_xPlace, h_have, h_exiting, h_running, h_outcome, h_value, h_error, h_datum, h_place, h_beats, h_printed, c_sort, c_op, c_na, c_nb, c_up, c_val, c_size, c_params, c_parent, c_global, c_cells, c_locals, c_has, c_node, c_got, c_handle, c_pTarget, c_pPlace, c_act, c_mode, c_bVar, c_pType, c_v0, c_v1, c_v2, c_last, c_bVal, c_pVal, c_out) (if fo_q os = 0 then -1 else nI (336 + (fo_q os - 1))) v2 := by
    intro post h1 h0
    have hOp : ∀ i, i < C 6 → ∀ j, j + 1 = P (336 + i) → O (336 + j) ≤ 26 := by
      intro i hi j hj
      exact (s4 i hi).1.2.2.2.2.2.2.2 j hj
    refine ⟨15, ?_⟩
    exact yl_ba5 (P := P) (O := O) (A := A) (lab := lab) (b := 336) (s := 6) rfl (by decide) 14 (fo_q os) 0 15 (by omega) (by omega) (by omega) (fun i hi => ⟨(s4 i (by omega)).1.2.2.2.1, (s2.1 i (by omega)).1, fun e => ⟨((s4 i (by omega)).1.2.2.2.2.2.2.1 e).2.1, fun e2 => (hN11 i (by omega) e2).2⟩⟩) (fun i hi => by
      cases os with
      | nil => cases hi
      | cons o r =>
        have : i = o := Nat.succ.inj hi
        rw [this]; exact F10 o (List.mem_cons_self ..)) (fun i hi => hOp i (by omega)) (by rw [hfd]; exact h1) (by rw [hfd]; exact h0)
  have eop : ∀ post : Int32 → Prop, (∀ z : Int32, z = (if fo_q os = 0 then -1 else nI (336 + (fo_q os - 1))) → wY_operandsFit_93 post 12 v2 z h_depth h_fuel h_count h_open h_types h_sp h_ret h_xTarget h_xVal h_xType h_xPlace h_have h_exiting h_running h_outcome h_value h_error h_datum h_place h_beats h_printed c_sort c_op c_na c_nb c_up c_val c_size c_params c_parent c_global c_cells c_locals c_has c_node c_got c_handle c_pTarget c_pPlace c_act c_mode c_bVar c_pType c_v0 c_v1 c_v2 c_last c_bVal c_pVal c_out) → ((0 ≤ h_open → (wY_operandsFit_93 post 12 v2 (336 + h_open) h_depth h_fuel h_count h_open h_types h_sp h_ret h_xTarget h_xVal h_xType h_xPlace h_have h_exiting h_running h_outcome h_value h_error h_datum h_place h_beats h_printed c_sort c_op c_na c_nb c_up c_val c_size c_params c_parent c_global c_cells c_locals c_has c_node c_got c_handle c_pTarget c_pPlace c_act c_mode c_bVar c_pType c_v0 c_v1 c_v2 c_last c_bVal c_pVal c_out)) ∧ (¬ 0 ≤ h_open → (wY_operandsFit_93 post 12 v2 (-1) h_depth h_fuel h_count h_open h_types h_sp h_ret h_xTarget h_xVal h_xType h_xPlace h_have h_exiting h_running h_outcome h_value h_error h_datum h_place h_beats h_printed c_sort c_op c_na c_nb c_up c_val c_size c_params c_parent c_global c_cells c_locals c_has c_node c_got c_handle c_pTarget c_pPlace c_act c_mode c_bVar c_pType c_v0 c_v1 c_v2 c_last c_bVal c_pVal c_out))) := by
    intro post h
    have e1 : 0 ≤ h_open ↔ 0 < fo_q os := by rw [F7]; exact (fb_upn (by omega)).2
    refine fb_if e1 (fun z => h _ ?_) (fun z => h _ ?_)
    · have e2 : nI (fo_q os) - 1 = nI (fo_q os - 1) := pk_sub (b := 1) (by omega)
      rw [if_neg (by omega), F7, e2, fb_336]
    · rw [if_pos (by omega)]
  have exA : (∃ a t, a < 8 ∧ v2 = nI a ∧ fo_fd O A a os = some t) ↔ ∃ t, fo_fd O A lab os = some t := by
    constructor
    · rintro ⟨a, t, a1, a2, a3⟩
      have := (l1 a a1).mp a2.symm
      exact ⟨t, by rw [← this]; exact a3⟩
    · rintro ⟨t, ht⟩
      obtain ⟨m1, m2, m3⟩ := fo_fd_mem ht
      obtain ⟨_, _, _, _, _, _, n7, _⟩ := (s4 t (hlc t m1)).1
      obtain ⟨_, _, k3, _⟩ := n7 (by omega)
      have a8 := k3.2.2.1 (by omega)
      rw [m3] at a8
      exact ⟨lab, t, a8, l2 a8, ht⟩
  have fX : ∀ (post : Int32 → Prop) (o : Nat), o ≤ 26 → (fo_fit T O A os o v2 v3 → post 1) → (¬ fo_fit T O A os o v2 v3 → post 0) → wpX_operandsFit post (f_openCount, f_typeCount, f_printedCount, f_depthLimit, f_fuelLimit, f_lastStatus, f_lastValue, f_lastError, f_lastDatum, f_lastPlace, f_beatsUsed, f_frameCount, f_mode, f_currentNode, f_currentEnv, f_result, f_calls, f_inForce, f_exitTarget, f_exitValue, f_exitType, f_exitPlace, a_nodeOp, a_nodeA, a_nodeB, a_nodeParts, a_nodeSize, a_slotSize, a_slotParams, a_openLists, a_typeParent, a_elements, a_locals, a_specialValue, a_specialHas, a_printed, a_frames) (nI o) v2 v3 := by
    intro post o ho
    refine xl_fit ho T1 T4 (fun h1 h0 => ?_)
    refine bX _ (fun t ht => ?_) (fun hn => ?_)
    · have := hlt t (fo_fd_mem ht).1
      have e : ¬ nI (336 + t) = -1 := fun z => absurd (z ▸ nI_pos (n := 336 + t) (by omega)) (by decide)
      exact br_f e (h1 (exA.mpr ⟨t, ht⟩))
    · exact br_t rfl (h0 (fun z => by obtain ⟨t, ht⟩ := exA.mp z; rw [hn] at ht; cases ht))
  have fY : ∀ (post : Int32 → Prop) (o : Nat), o ≤ 26 → (fo_fit T O A os o v2 v3 → post 1) → (¬ fo_fit T O A os o v2 v3 → post 0) → wpY_operandsFit post (h_depth, h_fuel, h_count, h_open, h_types, h_sp, h_ret, h_xTarget, h_xVal, h_xType, h_xPlace, h_have, h_exiting, h_running, h_outcome, h_value, h_error, h_datum, h_place, h_beats, h_printed, c_sort, c_op, c_na, c_nb, c_up, c_val, c_size, c_params, c_parent, c_global, c_cells, c_locals, c_has, c_node, c_got, c_handle, c_pTarget, c_pPlace, c_act, c_mode, c_bVar, c_pType, c_v0, c_v1, c_v2, c_last, c_bVal, c_pVal, c_out) (nI o) v2 v3 := by
    intro post o ho
    refine yl_fit ho T2 T4 (fun h1 h0 => eop post (fun z ez => ?_))
    subst ez
    refine bY _ (fun t ht => ?_) (fun hn => ?_)
    · have := hlt t (fo_fd_mem ht).1
      refine br_t (nI_pos' (by omega)) ?_
      have h := exA.mpr ⟨t, ht⟩
      have h' := h
      obtain ⟨a, t', a1, a2, a3⟩ := h'
      refine br_f (by decide) (br_t rfl ?_)
      have k1 : ¬ v2 < 0 := by rw [a2]; exact nI_pos (by omega)
      have k2 : ¬ (7 : Int32) < v2 := by rw [a2]; exact nI_nlt (b := a) (a := 7) (by omega) (by decide)
      exact br_f k1 (br_f k2 (h1 h))
    · exact br_f (by decide) (h0 (fun z => by obtain ⟨t, ht⟩ := exA.mp z; rw [hn] at ht; cases ht))
  have rY0 : ∀ Q : Int32 → SY → Prop, ¬ (∃ o, o ≤ 26 ∧ v1 = nI o ∧ fo_rm P O (C 6) os ∧ os.length < 12 ∧ fo_fit T O A os o v2 v3) → Q 0 (h_depth, h_fuel, h_count, h_open, h_types, h_sp, h_ret, h_xTarget, h_xVal, h_xType, h_xPlace, h_have, h_exiting, h_running, h_outcome, h_value, h_error, h_datum, h_place, h_beats, h_printed, c_sort, c_op, c_na, c_nb, c_up, c_val, c_size, c_params, c_parent, c_global, c_cells, c_locals, c_has, c_node, c_got, c_handle, c_pTarget, c_pPlace, c_act, c_mode, c_bVar, c_pType, c_v0, c_v1, c_v2, c_last, c_bVal, c_pVal, c_out) → wpY_open Q (h_depth, h_fuel, h_count, h_open, h_types, h_sp, h_ret, h_xTarget, h_xVal, h_xType, h_xPlace, h_have, h_exiting, h_running, h_outcome, h_value, h_error, h_datum, h_place, h_beats, h_printed, c_sort, c_op, c_na, c_nb, c_up, c_val, c_size, c_params, c_parent, c_global, c_cells, c_locals, c_has, c_node, c_got, c_handle, c_pTarget, c_pPlace, c_act, c_mode, c_bVar, c_pType, c_v0, c_v1, c_v2, c_last, c_bVal, c_pVal, c_out) v1 v2 v3 := by
    intro Q hno hQ
    by_cases a1 : v1 < 0
    · exact br_t a1 hQ
    · refine br_f a1 ?_
      by_cases a2 : (26 : Int32) < v1
      · exact br_t a2 hQ
      · refine br_f a2 ?_
        obtain ⟨o, ho, rfl⟩ := nI_of2 (M := 26) (n := 26) (by decide) a1 (Int32.not_lt.mp a2)
        refine yl_room F2 F10 F7 F9 (fun g => br_f (by decide) ?_) (fun g => br_t rfl hQ)
        refine fY _ o ho (fun g2 => br_f (by decide) ⟨12, ?_⟩) (fun g2 => br_t rfl hQ)
        have hd : 12 ≤ os.length := Nat.le_of_not_lt (fun z => hno ⟨o, ho, rfl, g, z, g2⟩)
        subst F7
        refine yl_dep (P := P) 11 0 12 os (by omega) (by omega) F3 (fun q hq => ⟨hlt q hq, (s4 q (hlc q hq)).1.2.2.2.1⟩) ?_
        refine br_f ?_ hQ
        have hdr : ∃ o' r', os.drop 11 = o' :: r' := by
          cases hh : os.drop 11 with
          | nil => have := List.drop_eq_nil_iff.mp hh; omega
          | cons o' r' => exact ⟨o', r', rfl⟩
        obtain ⟨o', r', e⟩ := hdr
        have ho' := hlt o' (List.mem_of_mem_drop (by rw [e]; exact List.mem_cons_self ..))
        rw [e]
        show ¬ nI (o' + 1) - 1 < 0
        rw [nI_pred]
        exact nI_pos (by omega)
  unfold wpX_open
  dsimp only
  refine xl_room F2 F10 F4 F5 F6 F8 (fun g => br_f (by decide) ?_) (fun g => br_t rfl (rY0 _ (fun ⟨o, _, _, z, _⟩ => g z) ⟨rfl, I⟩))
  have eoc : (12 : Int32) ≤ f_openCount ↔ 12 ≤ os.length := by rw [F6]; exact nI_leI (a := 12) (by decide) (by omega)
  refine fb_if eoc (fun z => rY0 _ (fun ⟨o, _, _, _, w, _⟩ => by omega) ⟨rfl, I⟩) (fun z => ?_)
  by_cases a1 : fo_RG 0 27 v1
  · obtain ⟨o, _, ho, rfl⟩ := a1
    refine fX _ o (by omega) (fun g2 => br_f (by decide) ?_) (fun g2 => br_t rfl (rY0 _ (fun ⟨o', ho', e', _, _, w⟩ => g2 (by have := (nI_eq (by omega) (by omega)).mp e'; rw [this]; exact w)) ⟨rfl, I⟩))
    obtain ⟨h0, hc6⟩ := fo_rm_h0 g
    obtain ⟨a, b1, b2, b3, b4, b5⟩ := fo_fit_a (by omega) T4 g2
    refine nm_r (e' := nI (336 + C 6)) (by rw [F8]; exact fb_336 _) ?_
    -- what the class does at last
    have fin : ∀ wb : Int32, (o = 12 → ∃ t, t ≤ C 6 ∧ wb = nI (C 6 - t) ∧ fo_ba P O A 336 a 13 (fo_q os) = some t) → (o ≠ 12 → wb = v3) → wX_open_64 (fun r u' => wpY_open (fun r' v' => r' = r ∧ i_Rel (k + 4) u' v') (h_depth, h_fuel, h_count, h_open, h_types, h_sp, h_ret, h_xTarget, h_xVal, h_xType, h_xPlace, h_have, h_exiting, h_running, h_outcome, h_value, h_error, h_datum, h_place, h_beats, h_printed, c_sort, c_op, c_na, c_nb, c_up, c_val, c_size, c_params, c_parent, c_global, c_cells, c_locals, c_has, c_node, c_got, c_handle, c_pTarget, c_pPlace, c_act, c_mode, c_bVar, c_pType, c_v0, c_v1, c_v2, c_last, c_bVal, c_pVal, c_out) (nI o) v2 v3) (nI o) v2 (nI (336 + C 6)) wb f_openCount f_typeCount f_printedCount f_depthLimit f_fuelLimit f_lastStatus f_lastValue f_lastError f_lastDatum f_lastPlace f_beatsUsed f_frameCount f_mode f_currentNode f_currentEnv f_result f_calls f_inForce f_exitTarget f_exitValue f_exitType f_exitPlace a_nodeOp a_nodeA a_nodeB a_nodeParts a_nodeSize a_slotSize a_slotParams a_openLists a_typeParent a_elements a_locals a_specialValue a_specialHas a_printed a_frames := by
      intro wb w1 w2
      unfold wX_open_64
      refine xl_add (nI o) v2 wb hc6 F4 F5 hlt F6 F8 ?_
      have i12 : vp_in f_openCount 12 := by rw [F6]; exact vp_in_nI (by omega) (by decide)
      refine ⟨i12, nm_e (nm_r (e' := nI (os.length + 1)) (by rw [F6]; exact nI_1 _) ?_)⟩
      rw [F6, nI_clamp (by omega)]
      refine br_f (nI_pos (by omega)) (br_f (nI_nlt (b := o) (a := 26) (by omega) (by decide)) ?_)
      refine yl_room F2 F10 F7 F9 (fun _ => br_f (by decide) ?_) (fun z => absurd g z)
      refine fY _ o (by omega) (fun _ => br_f (by decide) ⟨12, ?_⟩) (fun z => absurd g2 z)
      subst F7 F9
      refine yl_dep (P := P) 11 0 12 os (by omega) (by omega) F3 (fun q hq => ⟨hlt q hq, (s4 q (hlc q hq)).1.2.2.2.1⟩) ?_
      have hdr : os.drop 11 = [] := List.drop_eq_nil_iff.mpr (by omega)
      rw [hdr]
      refine br_t (by decide) ?_
      refine yl_add (w := 0) 0 (by decide) hc6 (by omega) rfl rfl ?_
      have i336 : vp_in (336 + nI (C 6)) 392 := by rw [fb_336]; exact vp_in_nI (by omega) (by decide)
      refine nm_r (nI_pred (C 6)) ⟨i336, nm_e ⟨i336, nm_e ⟨i336, nm_e ?_⟩⟩⟩
      rw [fb_336, nI_clamp (by omega)]
      refine ⟨rfl, T, d, F, ⟨T1, T2, ⟨T3, T4, T5⟩, T6⟩, R2, R3, R4, R5, R6, ?_⟩
      obtain ⟨f1, f2, f3, f4, f5⟩ := F11
      have eo : vp_nar .byte (nI o).toInt8.toInt32 = nI o := fb_byte (by omega)
      have ea : fo_ma o → vp_nar .byte v2.toInt8.toInt32 = nI a := fun z => by rw [b3 z]; exact fb_byte (by omega)
      have fin2 := rl_T_add (xl' := upd a_openLists os.length (nI (336 + C 6))) (os' := C 6 :: os) (o := o) (a := a) (wa := v2) (wb := wb) (wt := nI 0) (wv := 0) (yo' := upd (upd c_op (336 + C 6) (-1)) (336 + C 6) (vp_nar .byte (nI o).toInt8.toInt32)) (ya' := upd c_na (336 + C 6) (vp_nar .byte v2.toInt8.toInt32)) (yb' := upd c_nb (336 + C 6) (vp_nar .byte v3.toInt8.toInt32)) F1 F2 F3 F10 h0 hc6 (Or.inr rfl) (fun _ => by omega) (fun e => absurd (congrArg List.length e) (by simp)) (by simp only [List.length_cons]; omega) ⟨pk_us, fo_OL_upd (Nat.le_refl _) F5⟩ (fun j hj => by rw [pk_un hj, pk_un hj]) (fun j hj => pk_un hj) (fun j hj => pk_un hj) (by omega) ⟨f1, fb_byte' (n := 0) (by decide)⟩ ⟨rl_Fb_upd (rl_Fb_upd f2 (by rw [vp_nar_byte]; decide)) (by rw [eo]; exact fb_byte' (by omega)), rl_Fb_upd f3 (by rw [pk_vb, pk_vb]), rl_Fb_upd f4 (by rw [pk_vb, pk_vb]), f5⟩ (fun e => by omega) (fun e => by omega) (fun _ => ⟨rfl, by rw [pk_us, eo], b2, fun z => ⟨b3 z, by rw [pk_us, ea z]⟩, fun z1 z2 => by
        obtain ⟨w, _, w3, w4⟩ := b4 z1 z2
        refine ⟨w, w3, ?_, ?_⟩
        · rw [w2 (by omega)]; exact w4
        · rw [pk_us, w4]; exact fb_byte (by omega), w1⟩)
      have eq : nI (fo_q (C 6 :: os)) - 1 = nI (C 6) := nI_pred _
      rw [eq] at fin2
      exact fin2
    refine pk_eq o 12 (fun e => ?_) (fun e => fin v3 (fun w => absurd w e) (fun _ => rfl))
    obtain ⟨t0, ht0⟩ := b5 e
    have hv : v2 = nI a := b3 (by unfold fo_ma; omega)
    have hla : a = lab := (l1 a (b2.2.2.1 (by omega))).mp hv.symm
    subst hla
    refine bX _ (fun t ht => ?_) (fun hn => by rw [hn] at ht0; cases ht0)
    have htc := hlc t (fo_fd_mem ht).1
    refine nm_r (e' := nI (C 6 - t)) ?_ (fin _ (fun _ => ⟨t, by omega, rfl, ?_⟩) (fun z => absurd e z))
    · rw [pk_sub (by omega)]
      exact congrArg nI (by omega)
    · rw [fo_fd_ba 13 os (by omega) F3]; exact ht
  · -- no list of that number
    have hbad : v1 < 0 ∨ 26 < v1 := by
      rcases Classical.em (v1 < 0) with h | h
      · exact Or.inl h
      · rcases Classical.em ((26 : Int32) < v1) with h2 | h2
        · exact Or.inr h2
        · obtain ⟨o, ho, rfl⟩ := nI_of2 (M := 26) (n := 26) (by decide) h (Int32.not_lt.mp h2)
          exact absurd ⟨o, Nat.zero_le _, by omega, rfl⟩ a1
    have last := rY0 (fun r' v' => r' = 0 ∧ i_Rel (k + 4) (f_openCount, f_typeCount, f_printedCount, f_depthLimit, f_fuelLimit, f_lastStatus, f_lastValue, f_lastError, f_lastDatum, f_lastPlace, f_beatsUsed, f_frameCount, f_mode, f_currentNode, f_currentEnv, f_result, f_calls, f_inForce, f_exitTarget, f_exitValue, f_exitType, f_exitPlace, a_nodeOp, a_nodeA, a_nodeB, a_nodeParts, a_nodeSize, a_slotSize, a_slotParams, a_openLists, a_typeParent, a_elements, a_locals, a_specialValue, a_specialHas, a_printed, a_frames) v') (fun ⟨o, ho, e, _⟩ => a1 ⟨o, Nat.zero_le _, by omega, e⟩) ⟨rfl, I⟩
    rcases hbad with h | h
    · have h8 : v1 < 8 := Int32.lt_trans h (by decide)
      exact br_t h8 (br_t h (br_t rfl last))
    · have h8 : ¬ v1 < 8 := fun z => absurd (Int32.lt_trans h z) (by decide)
      have h00 : ¬ v1 < 0 := fun z => absurd (Int32.lt_trans h z) (by decide)
      exact br_f h8 (br_t h (br_f h00 (br_t h (br_t rfl last))))
end
section
/-! the abstract machine between the class and the reference: a list of frames, the top first -/
abbrev Fr : Type := (Nat × Nat × Nat × List Nat) × (Nat × Int32 × Int32 × Int32) × (Int32 × Nat × Int32 × Nat) × Int32 × List (Nat × Nat × Nat) × Nat × Option Nat × Int32
def fr_nd (f : Fr) : Nat := f.1.1
def fr_ev (f : Fr) : Nat := f.1.2.1
def fr_ph (f : Fr) : Nat := f.1.2.2.1
def fr_rm (f : Fr) : List Nat := f.1.2.2.2
def fr_gt (f : Fr) : Nat := f.2.1.1
def fr_x0 (f : Fr) : Int32 := f.2.1.2.1
def fr_x1 (f : Fr) : Int32 := f.2.1.2.2.1
def fr_x2 (f : Fr) : Int32 := f.2.1.2.2.2
def fr_la (f : Fr) : Int32 := f.2.2.1.1
def fr_bv (f : Fr) : Nat := f.2.2.1.2.1
def fr_bx (f : Fr) : Int32 := f.2.2.1.2.2.1
def fr_ty (f : Fr) : Nat := f.2.2.1.2.2.2
def fr_dt (f : Fr) : Int32 := f.2.2.2.1
def fr_sc (f : Fr) : List (Nat × Nat × Nat) := f.2.2.2.2.1
def fr_sr (f : Fr) : Nat := f.2.2.2.2.2.1
def fr_tg (f : Fr) : Option Nat := f.2.2.2.2.2.2.1
def fr_pl (f : Fr) : Int32 := f.2.2.2.2.2.2.2
/-- the program: kinds, operands, variables of clauses, BLOCKs of RETURNs, numbers, parts, sizes of the functions, their parameters, is-a, depth, fuel -/
abbrev mG : Type := (Nat → Nat) × (Nat → Nat) × (Nat → Nat) × (Nat → Nat) × (Nat → Int32) × (Nat → List Nat) × (Nat → Nat) × (Nat → Nat) × (Nat → Nat → Bool) × Nat × Nat
def gO (g : mG) : Nat → Nat := g.1
def gA (g : mG) : Nat → Nat := g.2.1
def gB (g : mG) : Nat → Nat := g.2.2.1
def gR (g : mG) : Nat → Nat := g.2.2.2.1
def gN (g : mG) : Nat → Int32 := g.2.2.2.2.1
def gK (g : mG) : Nat → List Nat := g.2.2.2.2.2.1
def gC (g : mG) : Nat → Nat := g.2.2.2.2.2.2.1
def gP (g : mG) : Nat → Nat := g.2.2.2.2.2.2.2.1
def gI (g : mG) : Nat → Nat → Bool := g.2.2.2.2.2.2.2.2.1
def gD (g : mG) : Nat := g.2.2.2.2.2.2.2.2.2.1
def gF (g : mG) : Nat := g.2.2.2.2.2.2.2.2.2.2
/-- locals, cells, output, how much was printed, beats, values of the special variables at top -/
abbrev St : Type := (Nat → Int32) × (Nat → Int32) × (Nat → Int32) × Nat × Nat × (Nat → Option Int32)
def sLo (s : St) : Nat → Int32 := s.1
def sCe (s : St) : Nat → Int32 := s.2.1
def sOu (s : St) : Nat → Int32 := s.2.2.1
def sPr (s : St) : Nat := s.2.2.2.1
def sBe (s : St) : Nat := s.2.2.2.2.1
def sGl (s : St) : Nat → Option Int32 := s.2.2.2.2.2
def s_lo (s : St) (a : Nat → Int32) : St := (a, s.2)
def s_ce (s : St) (a : Nat → Int32) : St := (s.1, a, s.2.2)
def s_be (s : St) (b : Nat) : St := (s.1, s.2.1, s.2.2.1, s.2.2.2.1, b, s.2.2.2.2.2)
def s_gl (s : St) (a : Nat → Option Int32) : St := (s.1, s.2.1, s.2.2.1, s.2.2.2.1, s.2.2.2.2.1, a)
def s_pr (s : St) (v : Int32) : St := (s.1, s.2.1, (if s.2.2.2.1 < 24 then upd s.2.2.1 s.2.2.2.1 v else s.2.2.1), s.2.2.2.1 + 1, s.2.2.2.2)
/-- tag, value, target, type, place, frames, store -/
abbrev MS : Type := Nat × Int32 × Option Nat × Nat × Int32 × List Fr × St
def m_ch (g : mG) : List Fr → List (Nat × Nat × Nat)
  | [] => []
  | f :: r => if fr_ph f = 7 then fr_sc f else if fr_ph f = 1 ∧ (gO g (fr_nd f) = 16 ∨ gO g (fr_nd f) = 17) then (r.length, fr_nd f, fr_ev f) :: m_ch g r else m_ch g r
def m_fc : List Fr → Nat
  | [] => 0
  | f :: r => m_fc r + (if fr_ph f = 6 then 1 else 0)
def m_yh : List Fr → Nat
  | [] => 0
  | f :: r => m_yh r + (if fr_ph f = 7 then 0 else if fr_ph f = 4 then 2 else 1)
def m_cur (gl : Nat → Option Int32) (v : Nat) : List Fr → Option Int32
  | [] => gl v
  | f :: r => if fr_bv f = v then some (fr_bx f) else m_cur gl v r
def m_set (v : Nat) (x : Int32) : List Fr → Option (List Fr)
  | [] => none
  | ((nd, ev, ph, rm), (gt, x0, x1, x2), (la, bv, bx, ty), dt, sc, sr, tg, pl) :: r => if bv = v then some (((nd, ev, ph, rm), (gt, x0, x1, x2), (la, bv, x, ty), dt, sc, sr, tg, pl) :: r) else match m_set v x r with
    | some r' => some (((nd, ev, ph, rm), (gt, x0, x1, x2), (la, bv, bx, ty), dt, sc, sr, tg, pl) :: r')
    | none => none
def m_find (p : Fr → Bool) : List Fr → Option Nat
  | [] => none
  | f :: r => if p f then some r.length else m_find p r
def m_sf (g : mG) (t : Nat) : List (Nat × Nat × Nat) → Option ((Nat × Nat × Nat) × List (Nat × Nat × Nat))
  | [] => none
  | c :: r => if gI g t (gA g c.2.1) then some (c, r) else m_sf g t r
def m_dlv (l : List Fr) (v : Int32) (s : St) : MS := match l with
  | [] => (4, v, none, 0, 0, [], s)
  | f :: r => (1, v, none, 0, 0, f :: r, s)
def m_new (g : mG) (n e : Nat) : Fr := ((n, e, (if gO g n = 7 ∨ gO g n = 11 ∨ (16 ≤ gO g n ∧ gO g n ≤ 18) then 1 else 0), (if 16 ≤ gO g n ∧ gO g n ≤ 18 then (gK g n).drop 1 else gK g n)), (0, 0, 0, 0), (0, 0, 0, 0), 0, [], 0, none, 0)
def m_ev (g : mG) (n e : Nat) (l : List Fr) (s : St) : MS :=
  if gO g n = 27 then m_dlv l (gN g n) s
  else if gO g n = 28 then
    (if gA g n < 8 then m_dlv l (sLo s (8 * e + gA g n)) s
    else match m_cur (sGl s) (gA g n) l with
      | some x => m_dlv l x s
      | none => (2, 0, none, 0, 0, ((n, e, 8, []), (0, 0, 0, 0), (0, 0, 0, 4), nI (gA g n), m_ch g l, l.length, none, 0) :: l, s))
  else if gO g n = 10 then (if sBe s < gF g then (0, 0, none, 0, 0, m_new g n e :: l, s_be s (sBe s + 1)) else (6, 0, none, 0, 0, m_new g n e :: l, s))
  else (0, 0, none, 0, 0, m_new g n e :: l, s)
def m_raise (g : mG) (f : Fr) (r : List Fr) (t : Nat) (d : Int32) (s : St) : MS := match f with
  | ((nd, ev, ph, rm), (gt, x0, x1, x2), (la, bv, bx, ty), dt, sc, sr, tg, pl) => (2, 0, none, 0, 0, ((nd, ev, 4, rm), (gt, x0, x1, x2), (la, bv, bx, t), d, m_ch g r, r.length, tg, pl) :: r, s)
def m_lo (s : St) (e k : Nat) (x0 x1 x2 : Int32) : Nat → Int32 := fun j => if 8 * e ≤ j ∧ j < 8 * e + 8 then (if j - 8 * e < k then (if j - 8 * e = 0 then x0 else if j - 8 * e = 1 then x1 else x2) else 0) else sLo s j
def m_apk (g : mG) (f : Fr) (r : List Fr) (s : St) (k : Nat) : MS :=
  match k with
  | 0 => m_dlv r (fr_x0 f + fr_x1 f) s
  | 1 => m_dlv r (fr_x0 f - fr_x1 f) s
  | 2 => m_dlv r (fr_x0 f * fr_x1 f) s
  | 3 => if fr_x1 f = 0 then m_raise g f r 3 (fr_x0 f) s else m_dlv r (fr_x0 f / fr_x1 f) s
  | 4 => m_dlv r (if fr_x1 f ≤ fr_x0 f then 0 else 1) s
  | 5 => m_dlv r (if fr_x0 f = fr_x1 f then 1 else 0) s
  | 8 => if gA g (fr_nd f) < 8 then m_dlv r (fr_x0 f) (s_lo s (upd (sLo s) (8 * fr_ev f + gA g (fr_nd f)) (fr_x0 f)))
    else (match m_set (gA g (fr_nd f)) (fr_x0 f) r with
      | some r' => m_dlv r' (fr_x0 f) s
      | none => m_dlv r (fr_x0 f) (s_gl s (fun v => if v = gA g (fr_nd f) then some (fr_x0 f) else sGl s v)))
  | 12 => (3, fr_x0 f, m_find (fun q => decide (fr_nd q = gR g (fr_nd f) ∧ fr_ev q = fr_ev f)) (f :: r), 0, 0, f :: r, s)
  | 14 => (match m_find (fun q => decide (fr_ph q = 1 ∧ gO g (fr_nd q) = 13 ∧ fr_x0 q = fr_x0 f)) (f :: r) with
    | some h => (3, fr_x1 f, some h, 0, 0, f :: r, s)
    | none => m_raise g f r 5 (fr_x0 f) s)
  | 19 => (match m_find (fun q => decide (fr_ph q = 1 ∧ gO g (fr_nd q) = 18 ∧ gA g (fr_nd q) = gA g (fr_nd f))) (f :: r) with
    | some h => (3, fr_x0 f, some h, 0, 0, f :: r, s)
    | none => m_raise g f r 5 (fr_x0 f) s)
  | 20 => m_raise g f r (gA g (fr_nd f)) (fr_x0 f) s
  | 21 => m_raise g f r (gA g (fr_nd f)) (fr_x0 f) s
  | 22 => m_dlv r (fr_x0 f) (s_pr s (fr_x0 f))
  | 23 => if gC g (gA g (fr_nd f)) = 0 then m_raise g f r 8 (nI (gA g (fr_nd f))) s
    else if gP g (gA g (fr_nd f)) ≠ (gK g (fr_nd f)).length then m_raise g f r 9 (nI (gK g (fr_nd f)).length) s
    else if gD g ≤ m_fc r then m_raise g f r 7 (nI (m_fc r)) s
    else if gF g ≤ sBe s then (6, 0, none, 0, 0, f :: r, s)
    else (match f with
      | ((nd, ev, ph, rm), (gt, x0, x1, x2), (la, bv, bx, ty), dt, sc, sr, tg, pl) => m_ev g (56 * gA g nd) (m_fc r + 1) (((nd, ev, 6, rm), (gt, x0, x1, x2), (la, bv, bx, ty), dt, sc, sr, tg, pl) :: r) (s_lo (s_be s (sBe s + 1)) (m_lo s (m_fc r + 1) (gK g nd).length x0 x1 x2)))
  | 24 => if fr_x0 f < 0 ∨ 16 ≤ fr_x0 f then m_raise g f r 6 (fr_x0 f) s else m_dlv r (sCe s (16 * gA g (fr_nd f) + (fr_x0 f).toNatClampNeg)) s
  | 25 => if fr_x0 f < 0 ∨ 16 ≤ fr_x0 f then m_raise g f r 6 (fr_x0 f) s else m_dlv r (sCe s (16 * gA g (fr_nd f) + (fr_x0 f).toNatClampNeg)) (s_ce s (upd (sCe s) (16 * gA g (fr_nd f) + (fr_x0 f).toNatClampNeg) (m_kb (gA g (fr_nd f)) (sCe s (16 * gA g (fr_nd f) + (fr_x0 f).toNatClampNeg) + fr_x1 f))))
  | 26 => m_dlv r (match m_cur (sGl s) (gA g (fr_nd f)) r with
    | some _ => 1
    | none => 0) s
  | _ => m_dlv r 0 s
def m_app (g : mG) (f : Fr) (r : List Fr) (s : St) : MS := m_apk g f r s (gO g (fr_nd f))
/-- the top frame goes on -/
def m_pro (g : mG) (f : Fr) (r : List Fr) (s : St) : MS := match f with
  | ((nd, ev, ph, rm), (gt, x0, x1, x2), (la, bv, bx, ty), dt, sc, sr, tg, pl) => match rm with
    | c :: cs => m_ev g c ev (((nd, ev, ph, cs), (gt, x0, x1, x2), (la, bv, bx, ty), dt, sc, sr, tg, pl) :: r) s
    | [] => match ph with
      | 0 => m_app g ((nd, ev, ph, []), (gt, x0, x1, x2), (la, bv, bx, ty), dt, sc, sr, tg, pl) r s
      | 1 => if gO g nd = 10 then (if sBe s < gF g then (0, 0, none, 0, 0, m_new g nd ev :: r, s_be s (sBe s + 1)) else (6, 0, none, 0, 0, ((nd, ev, ph, []), (gt, x0, x1, x2), (la, bv, bx, ty), dt, sc, sr, tg, pl) :: r, s)) else m_dlv r la s
      | 2 => m_dlv r x0 s
      | 3 => (3, dt, tg, ty, pl, r, s)
      | _ => m_dlv r la s
/-- the top frame takes a value -/
def m_take (g : mG) (f : Fr) (v : Int32) : Fr := match f with
  | ((nd, ev, ph, rm), (gt, x0, x1, x2), (la, bv, bx, ty), dt, sc, sr, tg, pl) => match ph with
    | 0 => if gO g nd = 6 then ((nd, ev, 1, [(gK g nd).getD (if v = 0 then 2 else 1) 0]), (gt + 1, v, x1, x2), (0, bv, bx, ty), dt, sc, sr, tg, pl)
      else if gO g nd = 10 then ((nd, ev, 1, rm), (gt + 1, x0, x1, x2), (0, bv, bx, ty), dt, sc, sr, tg, pl)
      else if gO g nd = 9 then ((nd, ev, 1, rm), (gt + 1, v, x1, x2), (0, gA g nd, v, ty), dt, sc, sr, tg, pl)
      else if gO g nd = 13 then ((nd, ev, 1, rm), (gt + 1, v, x1, x2), (0, bv, bx, ty), dt, sc, sr, tg, pl)
      else if gO g nd = 15 then ((nd, ev, 2, rm), (gt + 1, v, x1, x2), (la, bv, bx, ty), dt, sc, sr, tg, pl)
      else ((nd, ev, ph, rm), (gt + 1, (if gt = 0 then v else x0), (if gt = 1 then v else x1), (if gt = 2 then v else x2)), (la, bv, bx, ty), dt, sc, sr, tg, pl)
    | _ => ((nd, ev, ph, rm), (gt + 1, x0, x1, x2), (v, bv, bx, ty), dt, sc, sr, tg, pl)
/-- what a clause's variable gets -/
def m_cv (g : mG) (nd : Nat) : Nat := if gB g nd < 8 then 0 else gB g nd
def m_cs (g : mG) (nd ev : Nat) (v : Int32) (s : St) : St := if gB g nd < 8 then s_lo s (upd (sLo s) (8 * ev + gB g nd) v) else s
def m_pla (n : Nat) : Int32 := if 336 ≤ n then nI (n - 336) else nI (n % 56 + 100 * (1 + n / 56))
def m_srch (g : mG) (f : Fr) (r : List Fr) (s : St) : MS := match m_sf g (fr_ty f) (fr_sc f) with
  | none => if gO g (fr_nd f) = 20 then m_dlv r 0 s else (3, fr_dt f, none, fr_ty f, m_pla (fr_nd f), f :: r, s)
  | some ((h, n, e), t) => if gO g n = 17 then (3, fr_dt f, some h, 0, 0, f :: r, s)
    else (match f with
      | ((nd, ev, ph, rm), (gt, x0, x1, x2), (la, bv, bx, ty), dt, sc, sr, tg, pl) => if gF g ≤ sBe s then (6, 0, none, 0, 0, ((nd, ev, ph, rm), (gt, x0, x1, x2), (la, bv, bx, ty), dt, t, h, tg, pl) :: r, s)
      else m_ev g ((gK g n).getD 0 0) e (((n, e, 7, []), (0, 0, 0, 0), (0, m_cv g n, dt, 0), 0, t, 0, none, 0) :: ((nd, ev, ph, rm), (gt, x0, x1, x2), (la, bv, bx, ty), dt, t, h, tg, pl) :: r) (m_cs g n e dt (s_be s (sBe s + 1))))
def m_exit (g : mG) (v : Int32) (tgt : Option Nat) (t : Nat) (p : Int32) (f : Fr) (r : List Fr) (s : St) : MS := match f with
  | ((nd, ev, ph, rm), (gt, x0, x1, x2), (la, bv, bx, ty), dt, sc, sr, tg, pl) =>
    if tgt = some r.length then
      (if gO g nd = 17 ∨ gO g nd = 18 then m_ev g ((gK g nd).getD 0 0) ev (((nd, ev, 5, []), (0, x0, x1, x2), (la, m_cv g nd, v, ty), dt, sc, sr, tg, pl) :: r) (m_cs g nd ev v s)
      else m_dlv r v s)
    else if ph = 0 ∧ gO g nd = 15 then (0, 0, none, 0, 0, ((nd, ev, 3, rm), (1, x0, x1, x2), (la, bv, bx, t), v, sc, sr, tgt, p) :: r, s)
    else (3, v, tgt, t, p, r, s)
def m_step (g : mG) (m : MS) : MS := match m with
  | (0, _, _, _, _, f :: r, s) => m_pro g f r s
  | (1, v, _, _, _, f :: r, s) => if fr_ph f = 4 ∨ fr_ph f = 8 then (2, 0, none, 0, 0, f :: r, s)
    else if fr_ph f = 0 ∧ gO g (fr_nd f) = 10 ∧ v = 0 then m_dlv r 0 s
    else m_pro g (m_take g f v) r s
  | (2, _, _, _, _, f :: r, s) => m_srch g f r s
  | (3, v, tgt, t, p, [], s) => (5, v, tgt, t, p, [], s)
  | (3, v, tgt, t, p, f :: r, s) => m_exit g v tgt t p f r s
  | m => m
end
section
/-! what holds of every state that the machine reaches -/
def g_nd (g : mG) (V : Nat → Prop) (Z : Nat → Nat) (pa : Nat → Option Nat) (T n : Nat) : Prop :=
  gO g n ≤ 28 ∧ 1 ≤ Z n ∧ Z n ≤ 56 ∧ n < 392 ∧ (∀ c, c ∈ gK g n → V c ∧ pa c = some n) ∧ fo_con Z (n + Z n) (n + 1) (gK g n) ∧
  (gO g n ≤ 26 → fo_least (gO g n) ≤ (gK g n).length) ∧ (gO g n = 28 → gA g n < 12) ∧ (gO g n ≤ 26 → fo_ar T (gO g n) (gA g n)) ∧
  (16 ≤ gO g n → gO g n ≤ 18 → gB g n < 12) ∧ (gO g n = 12 → gO g (gR g n) = 11 ∧ ∀ S : Nat → Prop, S n → (∀ m p, S m → pa m = some p → S p) → S (gR g n))
def g_w (g : mG) (V : Nat → Prop) (Z : Nat → Nat) (pa : Nat → Option Nat) (T : Nat) : Prop :=
  (∀ n, V n → g_nd g V Z pa T n) ∧ (∀ a, a < 6 → gC g a ≠ 0 → V (56 * a) ∧ pa (56 * a) = none) ∧ V 336 ∧ pa 336 = none ∧ 1 ≤ gD g ∧ gD g ≤ 5 ∧ gF g ≤ 200 ∧ T ≤ 15 ∧ (∀ a, gP g a ≤ 3)
def w_kY (g : mG) (Z : Nat → Nat) : List (Nat × Nat × Nat) → Nat
  | [] => 0
  | (_, n, _) :: t => (if gO g n = 16 then 3 * Z ((gK g n).getD 0 0) + 1 else 0) + w_kY g Z t
def w_kX (g : mG) (Z : Nat → Nat) : List (Nat × Nat × Nat) → Nat
  | [] => 0
  | (_, n, _) :: t => (if gO g n = 16 then 4 * Z ((gK g n).getD 0 0) + 2 else 0) + w_kX g Z t
def w_iq (g : mG) (Z : Nat → Nat) (n : Nat) (l : List Fr) : Prop :=
  2 * m_yh l + 3 * Z n + 1 + w_kY g Z (m_ch g l) + 170 * (5 - m_fc l) ≤ 1040 ∧ 2 * l.length + 4 * Z n + w_kX g Z (m_ch g l) + 224 * (5 - m_fc l) ≤ 1400
def w_lx (pa : Nat → Option Nat) (n e : Nat) (l : List Fr) : Prop := pa n = none ∨ ∃ q, q ∈ l ∧ pa n = some (fr_nd q) ∧ fr_ev q = e
def w_tg (g : mG) (tgt : Option Nat) (l : List Fr) : Prop := ∀ h, tgt = some h → ∃ q r', (q :: r') <:+ l ∧ r'.length = h ∧ fr_ph q = 1 ∧ (gO g (fr_nd q) = 11 ∨ gO g (fr_nd q) = 13 ∨ gO g (fr_nd q) = 17 ∨ gO g (fr_nd q) = 18)
def w_tp (tgt : Option Nat) (t : Nat) (p : Int32) : Prop := tgt = none → t ≤ 15 ∧ ∃ k, k < 1000 ∧ p = nI k
def w_lk (g : mG) (w : Nat) (f : Fr) : Prop := match f with
  | ((nd, ev, ph, rm), (gt, x0, x1, x2), (la, bv, bx, ty), dt, sc, sr, tg, pl) =>
    (ph = 0 ∧ gO g nd ≤ 26 ∧ gO g nd ≠ 7 ∧ gO g nd ≠ 11 ∧ ¬ (16 ≤ gO g nd ∧ gO g nd ≤ 18) ∧ rm = (gK g nd).drop (gt + w) ∧ gt + w ≤ (gK g nd).length ∧ (gO g nd = 6 ∨ gO g nd = 9 ∨ gO g nd = 10 ∨ gO g nd = 13 ∨ gO g nd = 15 → gt = 0)) ∨
    (ph = 1 ∧ gO g nd = 6 ∧ ((w = 1 ∧ gt = 1 ∧ rm = []) ∨ (w = 0 ∧ gt = 1 ∧ ∃ j, (j = 1 ∨ j = 2) ∧ rm = [(gK g nd).getD j 0] ∧ x0 = (if j = 2 then 0 else x0) ∧ (j = 1 → x0 ≠ 0)) ∨ (w = 0 ∧ gt = 2 ∧ rm = []))) ∨
    (ph = 1 ∧ 16 ≤ gO g nd ∧ gO g nd ≤ 18 ∧ rm = (gK g nd).drop (gt + 1 + w) ∧ gt + 1 + w ≤ (gK g nd).length) ∨
    (ph = 1 ∧ (gO g nd = 7 ∨ gO g nd = 9 ∨ gO g nd = 10 ∨ gO g nd = 11 ∨ gO g nd = 13) ∧ rm = (gK g nd).drop (gt + w) ∧ gt + w ≤ (gK g nd).length ∧ (gO g nd = 9 ∨ gO g nd = 10 ∨ gO g nd = 13 → 1 ≤ gt)) ∨
    ((ph = 2 ∨ ph = 3) ∧ gO g nd = 15 ∧ 1 ≤ gt ∧ rm = (gK g nd).drop (gt + w) ∧ gt + w ≤ (gK g nd).length) ∨
    (ph = 4 ∧ (gO g nd = 3 ∨ gO g nd = 14 ∨ (19 ≤ gO g nd ∧ gO g nd ≤ 21) ∨ (23 ≤ gO g nd ∧ gO g nd ≤ 25)) ∧ rm = []) ∨
    (ph = 5 ∧ (gO g nd = 17 ∨ gO g nd = 18) ∧ rm = [] ∧ gt + w = 1) ∨
    (ph = 6 ∧ gO g nd = 23 ∧ rm = [] ∧ (w = 1 → gt ≤ 56)) ∨
    (ph = 7 ∧ gO g nd = 16 ∧ rm = []) ∨
    (ph = 8 ∧ gO g nd = 28 ∧ rm = [])
def w_sg (g : mG) (f : Fr) (r : List Fr) : Prop := fr_ph f = 4 ∨ fr_ph f = 8 → fr_sc f <:+ m_ch g r ∧ fr_sr f ≤ r.length ∧ m_ch g (r.drop (r.length - fr_sr f)) = fr_sc f ∧ 1 ≤ fr_ty f ∧ fr_ty f ≤ 15 ∧ ∀ q r', r.drop (r.length - fr_sr f) = q :: r' → fr_ph q ≠ 4 ∧ fr_ph q ≠ 8
def w_hd (f : Fr) (r : List Fr) : Prop := fr_ph f = 7 → ∃ q r', r = q :: r' ∧ (fr_ph q = 4 ∨ fr_ph q = 8) ∧ fr_sc q = fr_sc f
def w_nx (f : Fr) (r : List Fr) : Prop := fr_ph f ≠ 7 → ∀ q r', r = q :: r' → fr_ph q ≠ 4 ∧ fr_ph q ≠ 8
def w_bd (g : mG) (f : Fr) : Prop := fr_bv f = 0 ∨ (8 ≤ fr_bv f ∧ fr_bv f < 12 ∧ ((fr_ph f = 1 ∧ gO g (fr_nd f) = 9) ∨ fr_ph f = 5 ∨ fr_ph f = 7))
def w_f (g : mG) (V : Nat → Prop) (Z : Nat → Nat) (pa : Nat → Option Nat) (w : Nat) (f : Fr) (r : List Fr) : Prop :=
  V (fr_nd f) ∧ fr_ev f ≤ 5 ∧ w_lk g w f ∧ w_bd g f ∧ w_sg g f r ∧ w_hd f r ∧ w_nx f r ∧ w_lx pa (fr_nd f) (fr_ev f) r ∧ (fr_ph f ≠ 7 → w_iq g Z (fr_nd f) r) ∧ (fr_ph f = 3 → w_tg g (fr_tg f) r ∧ w_tp (fr_tg f) (fr_ty f) (fr_pl f))
def w_l (g : mG) (V : Nat → Prop) (Z : Nat → Nat) (pa : Nat → Option Nat) : Nat → List Fr → Prop
  | _, [] => True
  | w, f :: r => w_f g V Z pa w f r ∧ w_l g V Z pa 1 r
def w_m (g : mG) (V : Nat → Prop) (Z : Nat → Nat) (pa : Nat → Option Nat) (m : MS) : Prop := match m with
  | (t, _, tgt, ty, p, l, s) => m_fc l ≤ gD g ∧ sBe s ≤ gF g ∧ rl_Ce (sCe s) ∧
    (4 ≤ t → (t = 4 ∧ l = []) ∨ (t = 5 ∧ l = []) ∨ (t = 6 ∧ ∃ w, w_l g V Z pa w l)) ∧
    (t = 0 → ∃ f r, l = f :: r ∧ (fr_ph f = 0 ∨ fr_ph f = 1 ∨ fr_ph f = 3) ∧ w_l g V Z pa 0 l ∧ (gO g (fr_nd f) = 10 → fr_ph f = 0 ∧ fr_gt f = 0 ∧ 1 ≤ sBe s) ∧ (fr_ph f = 3 ∨ fr_gt f = 0)) ∧
    (t = 1 → l ≠ [] ∧ w_l g V Z pa 1 l) ∧
    (t = 2 → ∃ f r, l = f :: r ∧ (fr_ph f = 4 ∨ fr_ph f = 8) ∧ w_l g V Z pa 1 l) ∧
    (t = 3 → (w_l g V Z pa 1 l ∨ ∃ f r, l = f :: r ∧ w_l g V Z pa 0 l ∧ (gO g (fr_nd f) = 12 ∨ gO g (fr_nd f) = 14 ∨ gO g (fr_nd f) = 19)) ∧ w_tg g tgt l ∧ w_tp tgt ty p)
def u_f (g : mG) (Z : Nat → Nat) (f : Fr) : Nat := 4 + 16 * fo_sum Z (fr_rm f) + (if fr_ph f = 1 ∧ (gO g (fr_nd f) = 17 ∨ gO g (fr_nd f) = 18) then 16 * Z ((gK g (fr_nd f)).getD 0 0) else 0) + (if fr_ph f = 0 ∧ gO g (fr_nd f) = 15 then 3 else 0)
def u_l (g : mG) (Z : Nat → Nat) : List Fr → Nat
  | [] => 0
  | f :: r => u_f g Z f + u_l g Z r
def u_m (g : mG) (Z : Nat → Nat) (m : MS) : Nat := match m with
  | (0, _, _, _, _, l, s) => 3 + 1000 * (gF g - sBe s) + u_l g Z l
  | (1, _, _, _, _, l, s) => 3 + 1000 * (gF g - sBe s) + u_l g Z l
  | (2, _, _, _, _, l, s) => 2 + 1000 * (gF g - sBe s) + u_l g Z l
  | (3, _, _, _, _, l, s) => 1 + 1000 * (gF g - sBe s) + u_l g Z l
  | _ => 0
def u_p (m : MS) : Nat := sPr m.2.2.2.2.2.2
theorem w_link {g : mG} {V : Nat → Prop} {Z : Nat → Nat} {pa : Nat → Option Nat} : ∀ {l : List Fr} {w : Nat}, w_l g V Z pa w l → ∀ {h n e : Nat} {t : List (Nat × Nat × Nat)}, ((h, n, e) :: t) <:+ m_ch g l → ∃ q r', (q :: r') <:+ l ∧ r'.length = h ∧ fr_nd q = n ∧ fr_ev q = e ∧ fr_ph q = 1 ∧ (gO g n = 16 ∨ gO g n = 17) ∧ m_ch g r' = t
  | [], _, _, h, n, e, t, hs => by
    have hs : ((h, n, e) :: t) <:+ [] := hs
    exact absurd (List.suffix_nil.mp hs) (by simp)
  | f :: r, w, W, h, n, e, t, hs => by
    have hz : ((h, n, e) :: t) <:+ (if fr_ph f = 7 then fr_sc f else if fr_ph f = 1 ∧ (gO g (fr_nd f) = 16 ∨ gO g (fr_nd f) = 17) then (r.length, fr_nd f, fr_ev f) :: m_ch g r else m_ch g r) := hs
    have go : ((h, n, e) :: t) <:+ m_ch g r → ∃ q r', (q :: r') <:+ (f :: r) ∧ r'.length = h ∧ fr_nd q = n ∧ fr_ev q = e ∧ fr_ph q = 1 ∧ (gO g n = 16 ∨ gO g n = 17) ∧ m_ch g r' = t := by
      intro hs
      obtain ⟨q, r', a1, a2⟩ := w_link W.2 hs
      exact ⟨q, r', a1.trans (List.suffix_cons f r), a2⟩
    by_cases e7 : fr_ph f = 7
    · rw [if_pos e7] at hz
      obtain ⟨_, _, _, _, _, hd, _⟩ := W.1
      obtain ⟨q0, r0, e0, p0, s0⟩ := hd e7
      subst e0
      obtain ⟨⟨_, _, _, _, sg, _⟩, _⟩ := W.2
      obtain ⟨g1, _⟩ := sg p0
      refine go ?_
      have hs2 : ((h, n, e) :: t) <:+ fr_sc q0 := by rw [s0]; exact hz
      show ((h, n, e) :: t) <:+ (if fr_ph q0 = 7 then fr_sc q0 else if fr_ph q0 = 1 ∧ (gO g (fr_nd q0) = 16 ∨ gO g (fr_nd q0) = 17) then (r0.length, fr_nd q0, fr_ev q0) :: m_ch g r0 else m_ch g r0)
      rw [if_neg (by omega), if_neg (by omega)]
      exact hs2.trans g1
    · rw [if_neg e7] at hz
      by_cases e1 : fr_ph f = 1 ∧ (gO g (fr_nd f) = 16 ∨ gO g (fr_nd f) = 17)
      · rw [if_pos e1] at hz
        rcases List.suffix_cons_iff.mp hz with k | k
        · injection k with k1 k2
          injection k1 with k3 k4
          injection k4 with k5 k6
          subst k3 k5 k6 k2
          exact ⟨f, r, List.suffix_refl _, rfl, rfl, rfl, e1.1, e1.2, rfl⟩
        · exact go k
      · rw [if_neg e1] at hz
        exact go hz
theorem w_suf {g : mG} {V : Nat → Prop} {Z : Nat → Nat} {pa : Nat → Option Nat} : ∀ {l : List Fr}, w_l g V Z pa 1 l → ∀ {q : Fr} {r : List Fr}, (q :: r) <:+ l → w_f g V Z pa 1 q r ∧ w_l g V Z pa 1 r
  | [], _, q, r, hs => absurd (List.suffix_nil.mp hs) (by simp)
  | f :: r0, W, q, r, hs => by
    rcases List.suffix_cons_iff.mp hs with k | k
    · injection k with k1 k2
      subst k1 k2
      exact W
    · exact w_suf W.2 k
theorem w_kY_suf {g : mG} {Z : Nat → Nat} : ∀ {a b : List (Nat × Nat × Nat)}, a <:+ b → w_kY g Z a ≤ w_kY g Z b ∧ w_kX g Z a ≤ w_kX g Z b
  | a, [], h => by
    rw [List.suffix_nil.mp h]
    exact ⟨Nat.le_refl _, Nat.le_refl _⟩
  | a, (i, n, e) :: b, h => by
    rcases List.suffix_cons_iff.mp h with k | k
    · rw [k]
      exact ⟨Nat.le_refl _, Nat.le_refl _⟩
    · obtain ⟨h1, h2⟩ := w_kY_suf k
      exact ⟨Nat.le_trans h1 (Nat.le_add_left _ _), Nat.le_trans h2 (Nat.le_add_left _ _)⟩
theorem w_lx_mono {pa : Nat → Option Nat} {n e : Nat} {l l' : List Fr} (hs : l <:+ l') (h : w_lx pa n e l) : w_lx pa n e l' := by
  rcases h with h | ⟨q, h1, h2⟩
  · exact Or.inl h
  · exact Or.inr ⟨q, hs.subset h1, h2⟩
theorem w_tg_mono {g : mG} {t : Option Nat} {l l' : List Fr} (hs : l <:+ l') (h : w_tg g t l) : w_tg g t l' := by
  intro k hk
  obtain ⟨q, r', a1, a2⟩ := h k hk
  exact ⟨q, r', a1.trans hs, a2⟩
end
section
/-! every step keeps it, and comes nearer to the end -/
theorem fo_sum_mem {Z : Nat → Nat} {c : Nat} : ∀ {l : List Nat}, c ∈ l → Z c ≤ fo_sum Z l
  | [], h => by cases h
  | a :: r, h => by
    show Z c ≤ Z a + fo_sum Z r
    rcases List.mem_cons.mp h with e | e
    · rw [e]; omega
    · have := fo_sum_mem (Z := Z) e
      omega
theorem fo_sum_drop {Z : Nat → Nat} : ∀ (k : Nat) (l : List Nat), fo_sum Z (l.drop k) ≤ fo_sum Z l
  | 0, l => Nat.le_refl _
  | k + 1, [] => Nat.le_refl _
  | k + 1, a :: r => Nat.le_trans (fo_sum_drop k r) (Nat.le_add_left _ _)
theorem fo_con_len {Z : Nat → Nat} {e : Nat} : ∀ {p : Nat} {l : List Nat}, fo_con Z e p l → l.length ≤ fo_sum Z l
  | _, [], _ => Nat.le_refl _
  | p, c :: cs, h => by
    obtain ⟨rfl, h1, h2⟩ := h
    have := fo_con_len h2
    show cs.length + 1 ≤ Z c + fo_sum Z cs
    omega
theorem fo_get0 {Z : Nat → Nat} {l : List Nat} (h : 1 ≤ l.length) : l.getD 0 0 ∈ l ∧ Z (l.getD 0 0) + fo_sum Z (l.drop 1) = fo_sum Z l := by
  cases l with
  | nil => exact absurd h (by decide)
  | cons c cs => exact ⟨List.mem_cons_self .., rfl⟩
theorem fo_getj {l : List Nat} {j : Nat} (h : j < l.length) : l.getD j 0 ∈ l := by
  rw [List.getD_eq_getElem?_getD, List.getElem?_eq_getElem h]
  exact List.getElem_mem h
theorem u_fT {g : mG} {Z : Nat → Nat} {nd ev ph gt bv ty sr : Nat} {rm : List Nat} {x0 x1 x2 la bx dt pl : Int32} {sc : List (Nat × Nat × Nat)} {tg : Option Nat} : u_f g Z ((nd, ev, ph, rm), (gt, x0, x1, x2), (la, bv, bx, ty), dt, sc, sr, tg, pl) = 4 + 16 * fo_sum Z rm + (if ph = 1 ∧ (gO g nd = 17 ∨ gO g nd = 18) then 16 * Z ((gK g nd).getD 0 0) else 0) + (if ph = 0 ∧ gO g nd = 15 then 3 else 0) := rfl
theorem fo_sum_1 {Z : Nat → Nat} {c : Nat} : fo_sum Z [c] = Z c := rfl
section
variable {g : mG} {V : Nat → Prop} {Z : Nat → Nat} {pa : Nat → Option Nat} {T : Nat}
theorem w_ks (G : g_w g V Z pa T) {n : Nat} (h : V n) : fo_sum Z (gK g n) + 1 = Z n ∧ (gK g n).length < 56 ∧ (gK g n).length ≤ fo_sum Z (gK g n) := by
  obtain ⟨_, h1, h2, _, _, h6, _⟩ := G.1 n h
  have a := fo_con_sum h6
  have b := fo_con_len h6
  omega
theorem w_nf {t : Nat} {Q : Prop} (h : ¬ 4 ≤ t) : 4 ≤ t → Q := fun z => absurd z h
def w_s (g : mG) (s : St) : Prop := sBe s ≤ gF g ∧ rl_Ce (sCe s)
def w_ok (g : mG) (V : Nat → Prop) (Z : Nat → Nat) (pa : Nat → Option Nat) (b p : Nat) (m : MS) : Prop := w_m g V Z pa m ∧ u_m g Z m ≤ b ∧ u_p m ≤ p
theorem w_ok_le {b b' p p' : Nat} {m : MS} (h : w_ok g V Z pa b p m) (hb : b ≤ b') (hp : p ≤ p') : w_ok g V Z pa b' p' m := ⟨h.1, Nat.le_trans h.2.1 hb, Nat.le_trans h.2.2 hp⟩
theorem w_dlv {l : List Fr} {v : Int32} {s : St} (W : w_l g V Z pa 1 l) (hf : m_fc l ≤ gD g) (hs : w_s g s) : w_ok g V Z pa (3 + 1000 * (gF g - sBe s) + u_l g Z l) (sPr s) (m_dlv l v s) := by
  cases l with
  | nil => exact ⟨⟨hf, hs.1, hs.2, fun _ => Or.inl ⟨rfl, rfl⟩, fun e => (by cases e), fun e => (by cases e), fun e => (by cases e), fun e => (by cases e)⟩, Nat.zero_le _, Nat.le_refl _⟩
  | cons f r => exact ⟨⟨hf, hs.1, hs.2, w_nf (by decide), fun e => (by cases e), fun _ => ⟨fun e => (by cases e), W⟩, fun e => (by cases e), fun e => (by cases e)⟩, Nat.le_refl _, Nat.le_refl _⟩
theorem w_done {l : List Fr} {v : Int32} {t : Option Nat} {y k b p : Nat} {q : Int32} {s : St} (hk : 4 ≤ k) (hE : (k = 4 ∧ l = []) ∨ (k = 5 ∧ l = []) ∨ (k = 6 ∧ ∃ w, w_l g V Z pa w l)) (hf : m_fc l ≤ gD g) (hs : w_s g s) (hp : sPr s ≤ p) : w_ok g V Z pa b p (k, v, t, y, q, l, s) := by
  have : u_m g Z (k, v, t, y, q, l, s) = 0 := by
    obtain ⟨j, rfl⟩ : ∃ j, k = j + 4 := ⟨k - 4, by omega⟩
    rfl
  exact ⟨⟨hf, hs.1, hs.2, fun _ => hE, fun e => by omega, fun e => by omega, fun e => by omega, fun e => by omega⟩, by rw [this]; exact Nat.zero_le _, hp⟩
theorem w_new (G : g_w g V Z pa T) {n e : Nat} {l : List Fr} (hV : V n) (hO : gO g n ≤ 26) (he : e ≤ 5) (hx : w_lx pa n e l) (hi : w_iq g Z n l) (ht : ∀ q r', l = q :: r' → fr_ph q ≠ 4 ∧ fr_ph q ≠ 8) : w_f g V Z pa 0 (m_new g n e) l ∧ u_f g Z (m_new g n e) ≤ 7 + 16 * (Z n - 1) ∧ (fr_ph (m_new g n e) = 0 ∨ fr_ph (m_new g n e) = 1) := by
  obtain ⟨k1, k2, k3⟩ := w_ks G hV
  obtain ⟨_, _, _, _, n5, n6, n7, _⟩ := G.1 n hV
  have hl := n7 hO
  have end1 : fr_nd (m_new g n e) = n := rfl
  by_cases c1 : 16 ≤ gO g n ∧ gO g n ≤ 18
  · have hle : 1 ≤ (gK g n).length := by
      have : fo_least (gO g n) = 1 := by
        unfold fo_least
        rw [if_neg (by omega), if_neg (by omega), if_neg (by omega)]
      omega
    have eph : fr_ph (m_new g n e) = 1 := if_pos (Or.inr (Or.inr c1))
    have erm : fr_rm (m_new g n e) = (gK g n).drop 1 := if_pos c1
    refine ⟨⟨hV, he, ?_, Or.inl rfl, fun z => ?_, fun z => ?_, fun _ => ht, hx, fun _ => hi, fun z => ?_⟩, ?_, Or.inr eph⟩
    · refine Or.inr (Or.inr (Or.inl ⟨eph, c1.1, c1.2, erm, ?_⟩))
      exact hle
    · rw [eph] at z; omega
    · rw [eph] at z; omega
    · rw [eph] at z; omega
    · unfold u_f
      rw [erm, eph]
      have := (fo_get0 (Z := Z) hle).2
      rw [end1]
      split <;> split <;> omega
  · have erm : fr_rm (m_new g n e) = gK g n := if_neg c1
    by_cases c2 : gO g n = 7 ∨ gO g n = 11
    · have eph : fr_ph (m_new g n e) = 1 := if_pos (by omega)
      refine ⟨⟨hV, he, ?_, Or.inl rfl, fun z => ?_, fun z => ?_, fun _ => ht, hx, fun _ => hi, fun z => ?_⟩, ?_, Or.inr eph⟩
      · refine Or.inr (Or.inr (Or.inr (Or.inl ⟨eph, ?_, erm, Nat.zero_le _, ?_⟩)))
        · show gO g n = 7 ∨ gO g n = 9 ∨ gO g n = 10 ∨ gO g n = 11 ∨ gO g n = 13
          omega
        · intro z
          have z : gO g n = 9 ∨ gO g n = 10 ∨ gO g n = 13 := z
          omega
      · rw [eph] at z; omega
      · rw [eph] at z; omega
      · rw [eph] at z; omega
      · unfold u_f
        rw [erm, eph]
        rw [end1]
        split <;> split <;> omega
    · have eph : fr_ph (m_new g n e) = 0 := if_neg (by omega)
      refine ⟨⟨hV, he, ?_, Or.inl rfl, fun z => ?_, fun z => ?_, fun _ => ht, hx, fun _ => hi, fun z => ?_⟩, ?_, Or.inl eph⟩
      · refine Or.inl ⟨eph, hO, fun z => c2 (Or.inl z), fun z => c2 (Or.inr z), c1, erm, Nat.zero_le _, fun _ => rfl⟩
      · rw [eph] at z; omega
      · rw [eph] at z; omega
      · rw [eph] at z; omega
      · unfold u_f
        rw [erm, eph]
        rw [end1]
        split <;> split <;> omega
theorem w_fc_ne {f : Fr} {r : List Fr} (h : fr_ph f ≠ 6) : m_fc (f :: r) = m_fc r := by
  show m_fc r + (if fr_ph f = 6 then 1 else 0) = m_fc r
  rw [if_neg h, Nat.add_zero]
theorem w_ev (G : g_w g V Z pa T) {n e : Nat} {l : List Fr} {s : St} (hV : V n) (he : e ≤ 5) (W : w_l g V Z pa 1 l) (hx : w_lx pa n e l) (hi : w_iq g Z n l) (hf : m_fc l ≤ gD g) (ht : ∀ q r', l = q :: r' → fr_ph q ≠ 4 ∧ fr_ph q ≠ 8) (hs : w_s g s) : w_ok g V Z pa (1000 * (gF g - sBe s) + u_l g Z l + 16 * Z n) (sPr s) (m_ev g n e l s) := by
  obtain ⟨n1, n2, n3, n4, n5, n6, n7, n8, _⟩ := G.1 n hV
  unfold m_ev
  split
  · exact w_ok_le (w_dlv W hf hs) (by omega) (Nat.le_refl _)
  · split
    · split
      · exact w_ok_le (w_dlv W hf hs) (by omega) (Nat.le_refl _)
      · split
        · exact w_ok_le (w_dlv W hf hs) (by omega) (Nat.le_refl _)
        · rename_i c1 c2 c3 _ c4
          refine ⟨⟨?_, hs.1, hs.2, w_nf (by decide), fun z => (by cases z), fun z => (by cases z), fun _ => ⟨_, l, rfl, Or.inr rfl, ⟨hV, he, ?_, Or.inl rfl, fun _ => ⟨List.suffix_refl _, Nat.le_refl _, ?_, (by show 1 ≤ 4; decide), (by show 4 ≤ 15; decide), fun q r' e => ht q r' (by have e : l.drop (l.length - l.length) = q :: r' := e; rw [Nat.sub_self] at e; exact e)⟩, fun z => (by cases z), fun _ => ht, hx, fun _ => hi, fun z => (by cases z)⟩, W⟩, fun z => (by cases z)⟩, ?_, Nat.le_refl _⟩
          · rw [w_fc_ne (by show 8 ≠ 6; decide)]; exact hf
          · exact Or.inr (Or.inr (Or.inr (Or.inr (Or.inr (Or.inr (Or.inr (Or.inr (Or.inr ⟨rfl, c2, rfl⟩))))))))
          · show m_ch g (l.drop (l.length - l.length)) = m_ch g l
            rw [Nat.sub_self]; rfl
          · show 2 + 1000 * (gF g - sBe s) + (u_f g Z ((n, e, 8, []), (0, 0, 0, 0), (0, 0, 0, 4), nI (gA g n), m_ch g l, l.length, none, 0) + u_l g Z l) ≤ _
            rw [u_fT, if_neg (by omega), if_neg (by omega)]
            show 2 + 1000 * (gF g - sBe s) + (4 + 16 * 0 + 0 + 0 + u_l g Z l) ≤ _
            omega
    · rename_i c1 c2
      obtain ⟨a1, a2, a3⟩ := w_new G hV (by omega) he hx hi ht
      have hfc : m_fc (m_new g n e :: l) ≤ gD g := by rw [w_fc_ne (by omega)]; exact hf
      split
      · rename_i c3
        split
        · rename_i c4
          refine ⟨⟨hfc, c4, hs.2, w_nf (by decide), fun _ => ⟨_, l, rfl, by omega, ⟨a1, W⟩, fun _ => ⟨?_, rfl, Nat.succ_le_succ (Nat.zero_le _)⟩, Or.inr rfl⟩, fun z => (by cases z), fun z => (by cases z), fun z => (by cases z)⟩, ?_, Nat.le_refl _⟩
          · exact if_neg (by omega)
          · show 3 + 1000 * (gF g - (sBe s + 1)) + (u_f g Z (m_new g n e) + u_l g Z l) ≤ _
            omega
        · exact w_done (by decide) (Or.inr (Or.inr ⟨rfl, 0, a1, W⟩)) hfc hs (Nat.le_refl _)
      · rename_i c3
        refine ⟨⟨hfc, hs.1, hs.2, w_nf (by decide), fun _ => ⟨_, l, rfl, by omega, ⟨a1, W⟩, fun z => absurd z c3, Or.inr rfl⟩, fun z => (by cases z), fun z => (by cases z), fun z => (by cases z)⟩, ?_, Nat.le_refl _⟩
        show 3 + 1000 * (gF g - sBe s) + (u_f g Z (m_new g n e) + u_l g Z l) ≤ _
        omega
theorem w_raise (G : g_w g V Z pa T) {f : Fr} {r : List Fr} {t : Nat} {d : Int32} {s : St} (F : w_f g V Z pa 0 f r) (W : w_l g V Z pa 1 r) (hp : fr_ph f = 0) (hr : fr_rm f = []) (ho : gO g (fr_nd f) = 3 ∨ gO g (fr_nd f) = 14 ∨ (19 ≤ gO g (fr_nd f) ∧ gO g (fr_nd f) ≤ 21) ∨ (23 ≤ gO g (fr_nd f) ∧ gO g (fr_nd f) ≤ 25)) (t1 : 1 ≤ t) (t2 : t ≤ 15) (hf : m_fc r ≤ gD g) (hs : w_s g s) : w_ok g V Z pa (2 + 1000 * (gF g - sBe s) + 4 + u_l g Z r) (sPr s) (m_raise g f r t d s) := by
  obtain ⟨⟨nd, ev, ph, rm⟩, ⟨gt, x0, x1, x2⟩, ⟨la, bv, bx, ty⟩, dt, sc, sr, tg, pl⟩ := f
  obtain ⟨f1, f2, f3, f4, f5, f6, f7, f8, f9, f10⟩ := F
  have hr : rm = [] := hr
  have hp : ph = 0 := hp
  subst hr hp
  have hb : bv = 0 := by
    rcases f4 with z | ⟨_, _, z⟩
    · exact z
    · rcases z with ⟨z, _⟩ | z | z <;> cases z
  refine ⟨⟨by rw [w_fc_ne (by show 4 ≠ 6; decide)]; exact hf, hs.1, hs.2, w_nf (by decide), fun z => (by cases z), fun z => (by cases z), fun _ => ⟨_, r, rfl, Or.inl rfl, ⟨f1, f2, ?_, Or.inl hb, fun _ => ⟨List.suffix_refl _, Nat.le_refl _, ?_, t1, t2, fun q r' e => f7 (fun z => (by cases z)) q r' (by have e : r.drop (r.length - r.length) = q :: r' := e; rw [Nat.sub_self] at e; exact e)⟩, fun z => (by cases z), fun _ => f7 (fun z => (by cases z)), f8, fun _ => f9 (fun z => (by cases z)), fun z => (by cases z)⟩, W⟩, fun z => (by cases z)⟩, ?_, Nat.le_refl _⟩
  · exact Or.inr (Or.inr (Or.inr (Or.inr (Or.inr (Or.inl ⟨rfl, ho, rfl⟩)))))
  · show m_ch g (r.drop (r.length - r.length)) = m_ch g r
    rw [Nat.sub_self]; rfl
  · show 2 + 1000 * (gF g - sBe s) + (u_f g Z ((nd, ev, 4, []), (gt, x0, x1, x2), (la, bv, bx, t), d, m_ch g r, r.length, tg, pl) + u_l g Z r) ≤ _
    rw [u_fT, if_neg (by omega), if_neg (by omega)]
    show 2 + 1000 * (gF g - sBe s) + (4 + 16 * 0 + 0 + 0 + u_l g Z r) ≤ _
    omega
end
end
section
/-! stacks that differ in bound values alone; searches in the stack -/
def m_er (f : Fr) : Fr := match f with
  | ((nd, ev, ph, rm), (gt, x0, x1, x2), (la, bv, bx, ty), dt, sc, sr, tg, pl) => ((nd, ev, ph, rm), (gt, x0, x1, x2), (la, bv, 0, ty), dt, sc, sr, tg, pl)
def m_sh : List Fr → List Fr → Prop
  | [], [] => True
  | f :: r, f' :: r' => m_er f = m_er f' ∧ m_sh r r'
  | _, _ => False
theorem m_er_eq {f f' : Fr} (h : m_er f = m_er f') : ∃ x, f' = ((f.1.1, f.1.2.1, f.1.2.2.1, f.1.2.2.2), (f.2.1.1, f.2.1.2.1, f.2.1.2.2.1, f.2.1.2.2.2), (f.2.2.1.1, f.2.2.1.2.1, x, f.2.2.1.2.2.2), f.2.2.2.1, f.2.2.2.2.1, f.2.2.2.2.2.1, f.2.2.2.2.2.2.1, f.2.2.2.2.2.2.2) := by
  obtain ⟨⟨nd, ev, ph, rm⟩, ⟨gt, x0, x1, x2⟩, ⟨la, bv, bx, ty⟩, dt, sc, sr, tg, pl⟩ := f
  obtain ⟨⟨nd', ev', ph', rm'⟩, ⟨gt', x0', x1', x2'⟩, ⟨la', bv', bx', ty'⟩, dt', sc', sr', tg', pl'⟩ := f'
  refine ⟨bx', ?_⟩
  injection h with ha h
  injection h with hb h
  injection h with hc h
  injection ha with h1 ha
  injection ha with h2 ha
  injection ha with h3 h4
  injection hb with h5 hb
  injection hb with h6 hb
  injection hb with h7 h8
  injection hc with h9 hc
  injection hc with h10 hc
  injection hc with h11 h12
  injection h with h13 h
  injection h with h14 h
  injection h with h15 h
  injection h with h16 h17
  subst h1 h2 h3 h4 h5 h6 h7 h8 h9 h10 h12 h13 h14 h15 h16 h17
  rfl
theorem m_sh_refl : ∀ l, m_sh l l
  | [] => trivial
  | f :: r => ⟨rfl, m_sh_refl r⟩
theorem m_sh_len : ∀ {l l' : List Fr}, m_sh l l' → l.length = l'.length
  | [], [], _ => rfl
  | f :: r, f' :: r', h => congrArg (· + 1) (m_sh_len h.2)
  | [], f' :: r', h => h.elim
  | f :: r, [], h => h.elim
theorem m_sh_drop : ∀ (k : Nat) {l l' : List Fr}, m_sh l l' → m_sh (l.drop k) (l'.drop k)
  | 0, _, _, h => h
  | k + 1, [], [], _ => trivial
  | k + 1, f :: r, f' :: r', h => m_sh_drop k h.2
  | k + 1, [], f' :: r', h => h.elim
  | k + 1, f :: r, [], h => h.elim
theorem m_sh_fun {g : mG} {Z : Nat → Nat} : ∀ {l l' : List Fr}, m_sh l l' → m_ch g l = m_ch g l' ∧ m_fc l = m_fc l' ∧ m_yh l = m_yh l' ∧ u_l g Z l = u_l g Z l'
  | [], [], _ => ⟨rfl, rfl, rfl, rfl⟩
  | f :: r, f' :: r', h => by
    obtain ⟨a1, a2, a3, a4⟩ := m_sh_fun (g := g) (Z := Z) h.2
    have e := m_sh_len h.2
    obtain ⟨x, rfl⟩ := m_er_eq h.1
    refine ⟨?_, ?_, ?_, ?_⟩
    · show (if fr_ph f = 7 then fr_sc f else if fr_ph f = 1 ∧ (gO g (fr_nd f) = 16 ∨ gO g (fr_nd f) = 17) then (r.length, fr_nd f, fr_ev f) :: m_ch g r else m_ch g r) = (if fr_ph f = 7 then fr_sc f else if fr_ph f = 1 ∧ (gO g (fr_nd f) = 16 ∨ gO g (fr_nd f) = 17) then (r'.length, fr_nd f, fr_ev f) :: m_ch g r' else m_ch g r')
      rw [a1, e]
    · show m_fc r + (if fr_ph f = 6 then 1 else 0) = m_fc r' + (if fr_ph f = 6 then 1 else 0)
      rw [a2]
    · show m_yh r + (if fr_ph f = 7 then 0 else if fr_ph f = 4 then 2 else 1) = m_yh r' + (if fr_ph f = 7 then 0 else if fr_ph f = 4 then 2 else 1)
      rw [a3]
    · show u_f g Z f + u_l g Z r = u_f g Z f + u_l g Z r'
      rw [a4]
  | [], f' :: r', h => h.elim
  | f :: r, [], h => h.elim
theorem m_sh_mem : ∀ {l l' : List Fr}, m_sh l l' → ∀ q, q ∈ l → ∃ q', q' ∈ l' ∧ fr_nd q' = fr_nd q ∧ fr_ev q' = fr_ev q
  | [], [], _, q, h => by cases h
  | f :: r, f' :: r', h, q, hq => by
    rcases List.mem_cons.mp hq with e | e
    · obtain ⟨x, hx⟩ := m_er_eq h.1
      refine ⟨f', List.mem_cons_self .., ?_⟩
      rw [e, hx]
      exact ⟨rfl, rfl⟩
    · obtain ⟨q', a, b⟩ := m_sh_mem h.2 q e
      exact ⟨q', List.mem_cons_of_mem _ a, b⟩
  | [], f' :: r', h, _, _ => h.elim
  | f :: r, [], h, _, _ => h.elim
theorem m_sh_suf : ∀ {l l' : List Fr}, m_sh l l' → ∀ {q r}, (q :: r) <:+ l → ∃ q' r', (q' :: r') <:+ l' ∧ m_er q = m_er q' ∧ r.length = r'.length
  | [], [], _, q, r, hs => absurd (List.suffix_nil.mp hs) (by simp)
  | f :: r0, f' :: r0', h, q, r, hs => by
    rcases List.suffix_cons_iff.mp hs with k | k
    · injection k with k1 k2
      subst k1 k2
      exact ⟨f', r0', List.suffix_refl _, h.1, m_sh_len h.2⟩
    · obtain ⟨q', r', a, b⟩ := m_sh_suf h.2 k
      exact ⟨q', r', a.trans (List.suffix_cons _ _), b⟩
  | [], f' :: r', h, _, _, _ => h.elim
  | f :: r, [], h, _, _, _ => h.elim
theorem m_sh_tg {g : mG} {t : Option Nat} {l l' : List Fr} (h : m_sh l l') (W : w_tg g t l) : w_tg g t l' := by
  intro k hk
  obtain ⟨q, r, a1, a2, a3, a4⟩ := W k hk
  obtain ⟨q', r', b1, b2, b3⟩ := m_sh_suf h a1
  obtain ⟨x, hx⟩ := m_er_eq b2
  exact ⟨q', r', b1, by omega, by rw [hx]; exact a3, by rw [hx]; exact a4⟩
theorem m_sh_w {g : mG} {V : Nat → Prop} {Z : Nat → Nat} {pa : Nat → Option Nat} : ∀ {l l' : List Fr}, m_sh l l' → ∀ {w}, w_l g V Z pa w l → w_l g V Z pa w l'
  | [], [], _, _, _ => trivial
  | f :: r, f' :: r', h, w, W => by
    obtain ⟨⟨f1, f2, f3, f4, f5, f6, f7, f8, f9, f10⟩, W2⟩ := W
    obtain ⟨a1, a2, a3, a4⟩ := m_sh_fun (g := g) (Z := Z) h.2
    have e := m_sh_len h.2
    obtain ⟨x, rfl⟩ := m_er_eq h.1
    refine ⟨⟨f1, f2, f3, f4, fun z => ?_, fun z => ?_, fun z q r1 er => ?_, ?_, fun z => ?_, fun z => ⟨m_sh_tg h.2 (f10 z).1, (f10 z).2⟩⟩, m_sh_w h.2 W2⟩
    · obtain ⟨b1, b2, b3, b4, b5, b6⟩ := f5 z
      have b3 : m_ch g (r.drop (r.length - fr_sr f)) = fr_sc f := b3
      refine ⟨by rw [← a1]; exact b1, by rw [← e]; exact b2, ?_, b4, b5, fun q r1 eq => ?_⟩
      show m_ch g (r'.drop (r'.length - fr_sr f)) = fr_sc f
      rw [← e, ← (m_sh_fun (g := g) (Z := Z) (m_sh_drop _ h.2)).1]
      exact b3
      have b6 : ∀ q r1, r.drop (r.length - fr_sr f) = q :: r1 → fr_ph q ≠ 4 ∧ fr_ph q ≠ 8 := b6
      have eq : r'.drop (r'.length - fr_sr f) = q :: r1 := eq
      have sd := m_sh_drop (r.length - fr_sr f) h.2
      rw [← e] at eq
      rw [eq] at sd
      cases hd : r.drop (r.length - fr_sr f) with
      | nil => rw [hd] at sd; exact sd.elim
      | cons q0 r2 =>
        rw [hd] at sd
        obtain ⟨y, hy⟩ := m_er_eq sd.1
        rw [hy]
        exact b6 q0 r2 hd
    · obtain ⟨q, r1, b1, b2, b3⟩ := f6 z
      subst b1
      cases r' with
      | nil => exact h.2.elim
      | cons q' r1' =>
        obtain ⟨y, hy⟩ := m_er_eq h.2.1
        refine ⟨q', r1', rfl, ?_, ?_⟩
        · rw [hy]; exact b2
        · rw [hy]; exact b3
    · subst er
      cases r with
      | nil => exact h.2.elim
      | cons q0 r0 =>
        obtain ⟨y, hy⟩ := m_er_eq h.2.1
        rw [hy]
        exact f7 z q0 r0 rfl
    · rcases f8 with z | ⟨q, b1, b2, b3⟩
      · exact Or.inl z
      · obtain ⟨q', c1, c2, c3⟩ := m_sh_mem h.2 q b1
        exact Or.inr ⟨q', c1, by rw [c2]; exact b2, by rw [c3]; exact b3⟩
    · obtain ⟨i1, i2⟩ := f9 z
      unfold w_iq
      rw [← a1, ← a2, ← a3, ← e]
      exact ⟨i1, i2⟩
  | [], f' :: r', h, _, _ => h.elim
  | f :: r, [], h, _, _ => h.elim
theorem m_set_sh {v : Nat} {x : Int32} : ∀ {l l' : List Fr}, m_set v x l = some l' → m_sh l l'
  | [], l', h => by cases h
  | f :: r, l', h => by
    obtain ⟨⟨nd, ev, ph, rm⟩, ⟨gt, x0, x1, x2⟩, ⟨la, bv, bx, ty⟩, dt, sc, sr, tg, pl⟩ := f
    have h : (if bv = v then some (((nd, ev, ph, rm), (gt, x0, x1, x2), (la, bv, x, ty), dt, sc, sr, tg, pl) :: r) else match m_set v x r with
      | some r' => some (((nd, ev, ph, rm), (gt, x0, x1, x2), (la, bv, bx, ty), dt, sc, sr, tg, pl) :: r')
      | none => none) = some l' := h
    by_cases e : bv = v
    · rw [if_pos e] at h
      cases h
      exact ⟨rfl, m_sh_refl r⟩
    · rw [if_neg e] at h
      cases hm : m_set v x r with
      | none => rw [hm] at h; cases h
      | some r' =>
        rw [hm] at h
        cases h
        exact ⟨rfl, m_set_sh hm⟩
theorem m_find_some {p : Fr → Bool} : ∀ {l : List Fr} {h : Nat}, m_find p l = some h → ∃ q r', (q :: r') <:+ l ∧ r'.length = h ∧ p q = true
  | [], h, e => by cases e
  | f :: r, h, e => by
    have e : (if p f = true then some r.length else m_find p r) = some h := e
    by_cases k : p f = true
    · rw [if_pos k] at e
      cases e
      exact ⟨f, r, List.suffix_refl _, rfl, k⟩
    · rw [if_neg k] at e
      obtain ⟨q, r', a, b⟩ := m_find_some e
      exact ⟨q, r', a.trans (List.suffix_cons _ _), b⟩
theorem m_find_ex {p : Fr → Bool} : ∀ {l : List Fr} {q : Fr}, q ∈ l → p q = true → ∃ h, m_find p l = some h
  | [], q, h, _ => by cases h
  | f :: r, q, h, e => by
    show ∃ h, (if p f = true then some r.length else m_find p r) = some h
    by_cases k : p f = true
    · exact ⟨_, if_pos k⟩
    · rw [if_neg k]
      rcases List.mem_cons.mp h with z | z
      · rw [z] at e; exact absurd e k
      · exact m_find_ex z e
theorem m_sf_some {g : mG} {t : Nat} : ∀ {l : List (Nat × Nat × Nat)} {c r}, m_sf g t l = some (c, r) → (c :: r) <:+ l ∧ gI g t (gA g c.2.1) = true
  | [], c, r, e => by cases e
  | a :: l, c, r, e => by
    have e : (if gI g t (gA g a.2.1) = true then some (a, l) else m_sf g t l) = some (c, r) := e
    by_cases k : gI g t (gA g a.2.1) = true
    · rw [if_pos k] at e
      cases e
      exact ⟨List.suffix_refl _, k⟩
    · rw [if_neg k] at e
      obtain ⟨x, y⟩ := m_sf_some e
      exact ⟨x.trans (List.suffix_cons _ _), y⟩
theorem m_kb_id (a : Nat) (v : Int32) : m_kb a (m_kb a v) = m_kb a v := by
  unfold m_kb
  by_cases h0 : a = 0
  · rw [if_pos h0, if_pos h0, Int32.and_assoc]; rfl
  · rw [if_neg h0, if_neg h0]
    by_cases h1 : a = 1
    · rw [if_pos h1, if_pos h1]
      exact Value.int.inj (pk_nb v)
    · rw [if_neg h1, if_neg h1]
      by_cases h2 : a = 2
      · rw [if_pos h2, if_pos h2]
        exact Value.int.inj (pk_ns v)
      · rw [if_neg h2, if_neg h2, Int32.and_assoc]; rfl
theorem rl_Ce_upd {ce : Nat → Int32} {a i : Nat} {v : Int32} (h : rl_Ce ce) (ha : a < 4) (hi : i < 16) : rl_Ce (upd ce (16 * a + i) (m_kb a v)) := by
  intro b j hb hj
  by_cases e : 16 * b + j = 16 * a + i
  · have e1 : b = a := by omega
    rw [e, pk_us, e1, m_kb_id]
  · rw [pk_un e]; exact h b j hb hj
end
section
/-! every step keeps it: the steps -/
section
variable {g : mG} {V : Nat → Prop} {Z : Nat → Nat} {pa : Nat → Option Nat} {T : Nat}
theorem w_lx_all : ∀ {l : List Fr} {w : Nat}, w_l g V Z pa w l → ∀ {q : Fr} {p : Nat}, q ∈ l → pa (fr_nd q) = some p → ∃ q2, q2 ∈ l ∧ fr_nd q2 = p ∧ fr_ev q2 = fr_ev q
  | [], _, _, q, p, h, _ => by cases h
  | f :: r, w, W, q, p, h, e => by
    rcases List.mem_cons.mp h with z | z
    · subst z
      obtain ⟨_, _, _, _, _, _, _, f8, _⟩ := W.1
      rcases f8 with k | ⟨q2, a1, a2, a3⟩
      · rw [k] at e; cases e
      · refine ⟨q2, List.mem_cons_of_mem _ a1, ?_, a3⟩
        rw [a2] at e
        injection e
    · obtain ⟨q2, a1, a2⟩ := w_lx_all W.2 z e
      exact ⟨q2, List.mem_cons_of_mem _ a1, a2⟩
theorem w_ph11 {w : Nat} {f : Fr} (h : w_lk g w f) (hO : gO g (fr_nd f) = 11) : fr_ph f = 1 := by
  obtain ⟨⟨nd, ev, ph, rm⟩, ⟨gt, x0, x1, x2⟩, ⟨la, bv, bx, ty⟩, dt, sc, sr, tg, pl⟩ := f
  have hO : gO g nd = 11 := hO
  show ph = 1
  rcases h with h | h | h | h | h | h | h | h | h | h <;> omega
theorem u_f0 {f : Fr} (hr : fr_rm f = []) (hp : fr_ph f = 0) (hO : gO g (fr_nd f) ≠ 15) : u_f g Z f = 4 := by
  unfold u_f
  rw [hr, if_neg (by omega), if_neg (by omega)]
  rfl
theorem w_x3 {f : Fr} {r : List Fr} {s : St} {v : Int32} {h : Nat} (F : w_f g V Z pa 0 f r) (W : w_l g V Z pa 1 r) (hp : fr_ph f = 0) (hr : fr_rm f = []) (hO : gO g (fr_nd f) = 12 ∨ gO g (fr_nd f) = 14 ∨ gO g (fr_nd f) = 19) (hf : m_fc r ≤ gD g) (hs : w_s g s) (ht : w_tg g (some h) (f :: r)) : w_ok g V Z pa (2 + 1000 * (gF g - sBe s) + 4 + u_l g Z r) (sPr s + 1) (3, v, some h, 0, 0, f :: r, s) := by
  refine ⟨⟨by rw [w_fc_ne (by omega)]; exact hf, hs.1, hs.2, w_nf (by decide), fun z => (by cases z), fun z => (by cases z), fun z => (by cases z), fun _ => ⟨Or.inr ⟨f, r, rfl, ⟨F, W⟩, hO⟩, ht, fun z => (by cases z)⟩⟩, ?_, Nat.le_succ _⟩
  show 1 + 1000 * (gF g - sBe s) + (u_f g Z f + u_l g Z r) ≤ _
  rw [u_f0 hr hp (by omega)]
  omega
theorem w_app (G : g_w g V Z pa T) {f : Fr} {r : List Fr} {s : St} (F : w_f g V Z pa 0 f r) (W : w_l g V Z pa 1 r) (hp : fr_ph f = 0) (hr : fr_rm f = []) (hf : m_fc r ≤ gD g) (hs : w_s g s) : w_ok g V Z pa (2 + 1000 * (gF g - sBe s) + 4 + u_l g Z r) (sPr s + 1) (m_app g f r s) := by
  have F' := F
  obtain ⟨f1, f2, f3, f4, f5, f6, f7, f8, f9, f10⟩ := F'
  have N := G.1 _ f1
  obtain ⟨n1, n2, n3, n4, n5, n6, n7, n8, n9, n10, n11⟩ := N
  obtain ⟨_, G2, G3, G4, G5, G6, G7, G8, G9⟩ := G
  have D : ∀ v, w_ok g V Z pa (2 + 1000 * (gF g - sBe s) + 4 + u_l g Z r) (sPr s + 1) (m_dlv r v s) := fun v => w_ok_le (w_dlv W hf hs) (by omega) (Nat.le_succ _)
  have R : (gO g (fr_nd f) = 3 ∨ gO g (fr_nd f) = 14 ∨ (19 ≤ gO g (fr_nd f) ∧ gO g (fr_nd f) ≤ 21) ∨ (23 ≤ gO g (fr_nd f) ∧ gO g (fr_nd f) ≤ 25)) → ∀ t d, 1 ≤ t → t ≤ 15 → w_ok g V Z pa (2 + 1000 * (gF g - sBe s) + 4 + u_l g Z r) (sPr s + 1) (m_raise g f r t d s) := fun ho t d t1 t2 => w_ok_le (w_raise ⟨by assumption, G2, G3, G4, G5, G6, G7, G8, G9⟩ F W hp hr ho t1 t2 hf hs) (Nat.le_refl _) (Nat.le_succ _)
  unfold m_app m_apk
  split
  · exact D _
  · exact D _
  · exact D _
  · rename_i hO
    split
    · exact R (by omega) _ _ (by decide) (by decide)
    · exact D _
  · exact D _
  · exact D _
  · rename_i hO
    split
    · exact w_ok_le (w_dlv (s := s_lo s _) W hf hs) (by show 3 + 1000 * (gF g - sBe s) + u_l g Z r ≤ _; omega) (Nat.le_succ _)
    · split
      · rename_i r' hm
        have sh := m_set_sh hm
        obtain ⟨a1, a2, a3, a4⟩ := m_sh_fun (g := g) (Z := Z) sh
        refine w_ok_le (w_dlv (m_sh_w sh W) (by rw [← a2]; exact hf) hs) ?_ (Nat.le_succ _)
        rw [← a4]; omega
      · exact w_ok_le (w_dlv (s := s_gl s _) W hf hs) (by show 3 + 1000 * (gF g - sBe s) + u_l g Z r ≤ _; omega) (Nat.le_succ _)
  · rename_i hO
    obtain ⟨b1, b2⟩ := n11 hO
    have ex : ∃ q, q ∈ f :: r ∧ fr_nd q = gR g (fr_nd f) ∧ fr_ev q = fr_ev f := by
      refine b2 (fun m => ∃ q, q ∈ f :: r ∧ fr_nd q = m ∧ fr_ev q = fr_ev f) ⟨f, List.mem_cons_self .., rfl, rfl⟩ ?_
      rintro m p ⟨q, q1, q2, q3⟩ e
      rw [← q2] at e
      obtain ⟨q', c1, c2, c3⟩ := w_lx_all (w := 0) (l := f :: r) ⟨F, W⟩ q1 e
      exact ⟨q', c1, c2, by rw [c3]; exact q3⟩
    obtain ⟨q, q1, q2, q3⟩ := ex
    obtain ⟨h, hh⟩ := m_find_ex (p := fun q => decide (fr_nd q = gR g (fr_nd f) ∧ fr_ev q = fr_ev f)) q1 (by simp [q2, q3])
    rw [hh]
    refine w_x3 F W hp hr (Or.inl hO) hf hs ?_
    obtain ⟨p, r', d1, d2, d3⟩ := m_find_some hh
    intro k hk
    cases hk
    have d4 : fr_nd p = gR g (fr_nd f) ∧ fr_ev p = fr_ev f := of_decide_eq_true d3
    have hO2 : gO g (fr_nd p) = 11 := by rw [d4.1]; exact b1
    refine ⟨p, r', d1, d2, ?_, Or.inl hO2⟩
    rcases List.suffix_cons_iff.mp d1 with k | k
    · injection k with k1 k2
      rw [k1] at hO2; omega
    · exact w_ph11 (w_suf W k).1.2.2.1 hO2
  · rename_i hO
    split
    · rename_i h hh
      refine w_x3 F W hp hr (Or.inr (Or.inl hO)) hf hs ?_
      obtain ⟨p, r', d1, d2, d3⟩ := m_find_some hh
      have d4 := of_decide_eq_true d3
      intro k hk
      cases hk
      exact ⟨p, r', d1, d2, d4.1, Or.inr (Or.inl d4.2.1)⟩
    · exact R (by omega) _ _ (by decide) (by decide)
  · rename_i hO
    split
    · rename_i h hh
      refine w_x3 F W hp hr (Or.inr (Or.inr hO)) hf hs ?_
      obtain ⟨p, r', d1, d2, d3⟩ := m_find_some hh
      have d4 := of_decide_eq_true d3
      intro k hk
      cases hk
      exact ⟨p, r', d1, d2, d4.1, Or.inr (Or.inr (Or.inr d4.2.1))⟩
    · exact R (by omega) _ _ (by decide) (by decide)
  · rename_i hO
    have := (n9 (by omega)).2.2.2.1 (by omega)
    exact R (by omega) _ _ this.1 (by omega)
  · rename_i hO
    have := (n9 (by omega)).2.2.2.1 (by omega)
    exact R (by omega) _ _ this.1 (by omega)
  · exact w_ok_le (w_dlv (s := s_pr s _) W hf hs) (by show 3 + 1000 * (gF g - sBe s) + u_l g Z r ≤ _; omega) (Nat.le_refl _)
  · rename_i hO
    have hA := (n9 (by omega)).2.2.2.2.1 hO
    split
    · exact R (by omega) _ _ (by decide) (by decide)
    · rename_i c1
      split
      · exact R (by omega) _ _ (by decide) (by decide)
      · split
        · exact R (by omega) _ _ (by decide) (by decide)
        · rename_i c2 c3
          split
          · exact w_done (by decide) (Or.inr (Or.inr ⟨rfl, 0, F, W⟩)) (by rw [w_fc_ne (by omega)]; exact hf) hs (Nat.le_succ _)
          · rename_i c4
            obtain ⟨v1, v2⟩ := G2 _ hA c1
            obtain ⟨⟨nd, ev, ph, rm⟩, ⟨gt, x0, x1, x2⟩, ⟨la, bv, bx, ty⟩, dt, sc, sr, tg, pl⟩ := f
            have hr : rm = [] := hr
            have hp : ph = 0 := hp
            subst hr hp
            have hb : bv = 0 := by
              rcases f4 with z | ⟨_, _, z⟩
              · exact z
              · rcases z with ⟨z, _⟩ | z | z <;> cases z
            obtain ⟨r1, r2, r3, _⟩ := ‹∀ n, V n → g_nd g V Z pa T n› _ v1
            have r3 : Z (56 * gA g nd) ≤ 56 := r3
            obtain ⟨i1, i2⟩ := f9 (fun z => by cases z)
            have i1 : 2 * m_yh r + 3 * Z nd + 1 + w_kY g Z (m_ch g r) + 170 * (5 - m_fc r) ≤ 1040 := i1
            have i2 : 2 * r.length + 4 * Z nd + w_kX g Z (m_ch g r) + 224 * (5 - m_fc r) ≤ 1400 := i2
            have n2 : 1 ≤ Z nd := n2
            have hgt : gt ≤ 56 := by
              rcases f3 with h | h | h | h | h | h | h | h | h | h
              · obtain ⟨_, _, _, _, _, _, h7, _⟩ := h
                have := (w_ks (g := g) (V := V) (Z := Z) (pa := pa) (T := T) ⟨by assumption, G2, G3, G4, G5, G6, G7, G8, G9⟩ f1).2.1
                have : (gK g nd).length < 56 := this
                omega
              all_goals omega
            have Fn : w_f g V Z pa 1 ((nd, ev, 6, []), (gt, x0, x1, x2), (la, bv, bx, ty), dt, sc, sr, tg, pl) r := ⟨f1, f2, Or.inr (Or.inr (Or.inr (Or.inr (Or.inr (Or.inr (Or.inr (Or.inl ⟨rfl, hO, rfl, fun _ => hgt⟩))))))), Or.inl hb, fun z => (by rcases z with z | z <;> cases z), fun z => (by cases z), fun _ => f7 (fun z => by cases z), f8, fun _ => f9 (fun z => by cases z), fun z => (by cases z)⟩
            have efc : m_fc (((nd, ev, 6, []), (gt, x0, x1, x2), (la, bv, bx, ty), dt, sc, sr, tg, pl) :: r) = m_fc r + 1 := rfl
            refine w_ok_le (w_ev (T := T) ⟨by assumption, G2, G3, G4, G5, G6, G7, G8, G9⟩ v1 (by omega) ⟨Fn, W⟩ (Or.inl v2) ?_ (by omega) ?_ ⟨by show sBe s + 1 ≤ gF g; omega, hs.2⟩) ?_ (Nat.le_succ _)
            · refine ⟨?_, ?_⟩
              · show 2 * (m_yh r + 1) + 3 * Z (56 * gA g nd) + 1 + w_kY g Z (m_ch g r) + 170 * (5 - (m_fc r + 1)) ≤ 1040
                omega
              · show 2 * (r.length + 1) + 4 * Z (56 * gA g nd) + w_kX g Z (m_ch g r) + 224 * (5 - (m_fc r + 1)) ≤ 1400
                omega
            · intro q r' e
              injection e with e1 e2
              rw [← e1]
              exact ⟨by show (6 : Nat) ≠ 4; decide, by show (6 : Nat) ≠ 8; decide⟩
            · show 1000 * (gF g - (sBe s + 1)) + (u_f g Z ((nd, ev, 6, []), (gt, x0, x1, x2), (la, bv, bx, ty), dt, sc, sr, tg, pl) + u_l g Z r) + 16 * Z (56 * gA g nd) ≤ _
              rw [u_fT, if_neg (by omega), if_neg (by omega)]
              show 1000 * (gF g - (sBe s + 1)) + (4 + 16 * 0 + 0 + 0 + u_l g Z r) + 16 * Z (56 * gA g nd) ≤ _
              omega
  · rename_i hO
    split
    · exact R (by omega) _ _ (by decide) (by decide)
    · exact D _
  · rename_i hO
    have hA := (n9 (by omega)).2.2.2.2.2 (by omega)
    split
    · exact R (by omega) _ _ (by decide) (by decide)
    · rename_i c
      have hx : (fr_x0 f).toNatClampNeg < 16 := by
        obtain ⟨j, hj, e⟩ := fb_lt (x := fr_x0 f) 0 16 (fun z => c (Or.inl z)) (fun z => c (Or.inr z)) (by decide) (by decide)
        rw [e, nI_clamp (by omega)]; omega
      exact w_ok_le (w_dlv (s := s_ce s _) W hf ⟨hs.1, rl_Ce_upd hs.2 hA hx⟩) (by show 3 + 1000 * (gF g - sBe s) + u_l g Z r ≤ _; omega) (Nat.le_succ _)
  · exact D _
  · exact D _
end
end
section
/-! every step keeps it: going on, taking a value -/
theorem fo_drop_cons {l : List Nat} {k c : Nat} {cs : List Nat} (h : l.drop k = c :: cs) : cs = l.drop (k + 1) ∧ k + 1 ≤ l.length ∧ c ∈ l := by
  have hk : k < l.length := by
    rcases Nat.lt_or_ge k l.length with z | z
    · exact z
    · rw [List.drop_eq_nil_of_le z] at h; cases h
  rw [List.drop_eq_getElem_cons hk] at h
  injection h with h1 h2
  exact ⟨h2.symm, hk, by rw [← h1]; exact List.getElem_mem hk⟩
theorem fo_sum_two {Z : Nat → Nat} {l : List Nat} {k c : Nat} {cs : List Nat} (h : l.drop (k + 1) = c :: cs) : Z (l.getD 0 0) + Z c ≤ fo_sum Z l := by
  cases l with
  | nil => cases h
  | cons a t =>
    have h : t.drop k = c :: cs := h
    have := fo_sum_drop (Z := Z) k t
    rw [h] at this
    have e : fo_sum Z (c :: cs) = Z c + fo_sum Z cs := rfl
    show Z a + Z c ≤ Z a + fo_sum Z t
    omega
theorem fo_lst {g : mG} {V : Nat → Prop} {Z : Nat → Nat} {pa : Nat → Option Nat} {T n : Nat} (N : g_nd g V Z pa T n) {k : Nat} (h1 : gO g n ≤ 26) (h2 : fo_least (gO g n) = k) : k ≤ (gK g n).length := by
  obtain ⟨_, _, _, _, _, _, n7, _⟩ := N
  rw [← h2]; exact n7 h1
section
variable {g : mG} {V : Nat → Prop} {Z : Nat → Nat} {pa : Nat → Option Nat} {T : Nat}
theorem w_lk_cons {nd ev ph gt bv ty sr c : Nat} {cs : List Nat} {x0 x1 x2 la bx dt pl : Int32} {sc : List (Nat × Nat × Nat)} {tg : Option Nat} (h : w_lk g 0 ((nd, ev, ph, c :: cs), (gt, x0, x1, x2), (la, bv, bx, ty), dt, sc, sr, tg, pl)) : w_lk g 1 ((nd, ev, ph, cs), (gt, x0, x1, x2), (la, bv, bx, ty), dt, sc, sr, tg, pl) ∧ c ∈ gK g nd ∨ w_lk g 1 ((nd, ev, ph, cs), (gt, x0, x1, x2), (la, bv, bx, ty), dt, sc, sr, tg, pl) ∧ gO g nd = 6 ∧ ∃ j, (j = 1 ∨ j = 2) ∧ c = (gK g nd).getD j 0 := by
  rcases h with h | h | h | h | h | h | h | h | h | h
  · obtain ⟨h1, h2, h3, h4, h5, h6, h7, h8⟩ := h
    obtain ⟨a1, a2, a3⟩ := fo_drop_cons h6.symm
    exact Or.inl ⟨Or.inl ⟨h1, h2, h3, h4, h5, a1, a2, h8⟩, a3⟩
  · obtain ⟨h1, h2, h3⟩ := h
    rcases h3 with ⟨z, _⟩ | ⟨_, z2, j, z3, z4, z5⟩ | ⟨_, _, z⟩
    · cases z
    · injection z4 with z6 z7
      exact Or.inr ⟨Or.inr (Or.inl ⟨h1, h2, Or.inl ⟨rfl, z2, z7⟩⟩), h2, j, z3, z6⟩
    · cases z
  · obtain ⟨h1, h2, h3, h6, h7⟩ := h
    obtain ⟨a1, a2, a3⟩ := fo_drop_cons h6.symm
    exact Or.inl ⟨Or.inr (Or.inr (Or.inl ⟨h1, h2, h3, a1, a2⟩)), a3⟩
  · obtain ⟨h1, h2, h6, h7, h8⟩ := h
    obtain ⟨a1, a2, a3⟩ := fo_drop_cons h6.symm
    exact Or.inl ⟨Or.inr (Or.inr (Or.inr (Or.inl ⟨h1, h2, a1, a2, h8⟩))), a3⟩
  · obtain ⟨h1, h2, h3, h6, h7⟩ := h
    obtain ⟨a1, a2, a3⟩ := fo_drop_cons h6.symm
    exact Or.inl ⟨Or.inr (Or.inr (Or.inr (Or.inr (Or.inl ⟨h1, h2, h3, a1, a2⟩)))), a3⟩
  · exact absurd h.2.2 (by simp)
  · exact absurd h.2.2.1 (by simp)
  · exact absurd h.2.2.1 (by simp)
  · exact absurd h.2.2 (by simp)
  · exact absurd h.2.2 (by simp)
theorem w_lk_ph {w : Nat} {nd ev ph gt bv ty sr c : Nat} {cs : List Nat} {x0 x1 x2 la bx dt pl : Int32} {sc : List (Nat × Nat × Nat)} {tg : Option Nat} (h : w_lk g w ((nd, ev, ph, c :: cs), (gt, x0, x1, x2), (la, bv, bx, ty), dt, sc, sr, tg, pl)) : ph < 4 ∧ gO g nd ≤ 26 := by
  rcases h with h | h | h | h | h | h | h | h | h | h
  · exact ⟨by omega, by omega⟩
  · exact ⟨by omega, by omega⟩
  · exact ⟨by omega, by omega⟩
  · exact ⟨by omega, by omega⟩
  · exact ⟨by omega, by omega⟩
  · exact absurd h.2.2 (by simp)
  · exact absurd h.2.2.1 (by simp)
  · exact absurd h.2.2.1 (by simp)
  · exact absurd h.2.2 (by simp)
  · exact absurd h.2.2 (by simp)
theorem u_f4 (f : Fr) : 4 ≤ u_f g Z f := by
  unfold u_f
  omega
theorem w_lk_hs {w : Nat} {nd ev ph gt bv ty sr : Nat} {rm : List Nat} {x0 x1 x2 la bx dt pl : Int32} {sc : List (Nat × Nat × Nat)} {tg : Option Nat} (h : w_lk g w ((nd, ev, ph, rm), (gt, x0, x1, x2), (la, bv, bx, ty), dt, sc, sr, tg, pl)) (h1 : ph = 1) (h2 : 16 ≤ gO g nd) (h3 : gO g nd ≤ 18) : rm = (gK g nd).drop (gt + 1 + w) ∧ gt + 1 + w ≤ (gK g nd).length := by
  rcases h with h | h | h | h | h | h | h | h | h | h
  · omega
  · omega
  · exact ⟨h.2.2.2.1, h.2.2.2.2⟩
  all_goals omega
theorem w_pro (G : g_w g V Z pa T) {f : Fr} {r : List Fr} {s : St} (F : w_f g V Z pa 0 f r) (W : w_l g V Z pa 1 r) (h4 : fr_ph f ≠ 4) (h8 : fr_ph f ≠ 8) (hf : m_fc (f :: r) ≤ gD g) (hs : w_s g s) : w_ok g V Z pa (2 + 1000 * (gF g - sBe s) + u_f g Z f + u_l g Z r) (sPr s + 1) (m_pro g f r s) := by
  have hfr : m_fc r ≤ gD g := Nat.le_trans (Nat.le_add_right _ _) hf
  have u4 := u_f4 (g := g) (Z := Z) f
  have F' := F
  obtain ⟨⟨nd, ev, ph, rm⟩, ⟨gt, x0, x1, x2⟩, ⟨la, bv, bx, ty⟩, dt, sc, sr, tg, pl⟩ := f
  have h4 : ph ≠ 4 := h4
  have h8 : ph ≠ 8 := h8
  obtain ⟨f1, f2, f3, f4, f5, f6, f7, f8, f9, f10⟩ := F'
  have f1 : V nd := f1
  have f2 : ev ≤ 5 := f2
  have N := G.1 nd f1
  cases rm with
  | cons c cs =>
    obtain ⟨p1, p2⟩ := w_lk_ph f3
    obtain ⟨k1, k2, k3⟩ := w_ks G (n := nd) f1
    have hc : c ∈ gK g nd := by
      rcases w_lk_cons f3 with z | ⟨_, z, j, z1, z2⟩
      · exact z.2
      · have := fo_lst (k := 3) N (by omega) (by rw [z]; rfl)
        rw [z2]; exact fo_getj (by omega)
    have hl : w_lk g 1 ((nd, ev, ph, cs), (gt, x0, x1, x2), (la, bv, bx, ty), dt, sc, sr, tg, pl) := by
      rcases w_lk_cons f3 with z | z
      · exact z.1
      · exact z.1
    obtain ⟨n1, n2, n3, n4, n5, n6, n7, _⟩ := N
    obtain ⟨v1, v2⟩ := n5 c hc
    have hZc := fo_sum_mem (Z := Z) hc
    obtain ⟨i1, i2⟩ := f9 (by show ph ≠ 7; omega)
    have i1 : 2 * m_yh r + 3 * Z nd + 1 + w_kY g Z (m_ch g r) + 170 * (5 - m_fc r) ≤ 1040 := i1
    have i2 : 2 * r.length + 4 * Z nd + w_kX g Z (m_ch g r) + 224 * (5 - m_fc r) ≤ 1400 := i2
    have Fn : w_f g V Z pa 1 ((nd, ev, ph, cs), (gt, x0, x1, x2), (la, bv, bx, ty), dt, sc, sr, tg, pl) r := ⟨f1, f2, hl, f4, f5, f6, f7, f8, f9, f10⟩
    have ey : m_yh (((nd, ev, ph, cs), (gt, x0, x1, x2), (la, bv, bx, ty), dt, sc, sr, tg, pl) :: r) = m_yh r + 1 := by
      show m_yh r + (if ph = 7 then 0 else if ph = 4 then 2 else 1) = m_yh r + 1
      rw [if_neg (by omega), if_neg (by omega)]
    have ef : m_fc (((nd, ev, ph, cs), (gt, x0, x1, x2), (la, bv, bx, ty), dt, sc, sr, tg, pl) :: r) = m_fc r := w_fc_ne (by show ph ≠ 6; omega)
    have eu : u_f g Z ((nd, ev, ph, c :: cs), (gt, x0, x1, x2), (la, bv, bx, ty), dt, sc, sr, tg, pl) = u_f g Z ((nd, ev, ph, cs), (gt, x0, x1, x2), (la, bv, bx, ty), dt, sc, sr, tg, pl) + 16 * Z c := by
      rw [u_fT, u_fT]
      show 4 + 16 * (Z c + fo_sum Z cs) + _ + _ = _
      omega
    refine w_ok_le (w_ev G (s := s) v1 f2 ⟨Fn, W⟩ (Or.inr ⟨_, List.mem_cons_self .., v2, rfl⟩) ?_ (by rw [ef]; exact hfr) ?_ hs) ?_ (Nat.le_succ _)
    · unfold w_iq
      rw [ey, ef]
      by_cases c1 : ph = 1 ∧ (gO g nd = 16 ∨ gO g nd = 17)
      · have ec : m_ch g (((nd, ev, ph, cs), (gt, x0, x1, x2), (la, bv, bx, ty), dt, sc, sr, tg, pl) :: r) = (r.length, nd, ev) :: m_ch g r := by
          show (if ph = 7 then sc else if ph = 1 ∧ (gO g nd = 16 ∨ gO g nd = 17) then (r.length, nd, ev) :: m_ch g r else m_ch g r) = _
          rw [if_neg (by omega), if_pos c1]
        rw [ec]
        have hh := w_lk_hs f3 c1.1 (by omega) (by omega)
        have h2 := fo_sum_two (Z := Z) (k := gt) hh.1.symm
        refine ⟨?_, ?_⟩
        · show 2 * (m_yh r + 1) + 3 * Z c + 1 + ((if gO g nd = 16 then 3 * Z ((gK g nd).getD 0 0) + 1 else 0) + w_kY g Z (m_ch g r)) + 170 * (5 - m_fc r) ≤ 1040
          split <;> omega
        · show 2 * (r.length + 1) + 4 * Z c + ((if gO g nd = 16 then 4 * Z ((gK g nd).getD 0 0) + 2 else 0) + w_kX g Z (m_ch g r)) + 224 * (5 - m_fc r) ≤ 1400
          split <;> omega
      · have ec : m_ch g (((nd, ev, ph, cs), (gt, x0, x1, x2), (la, bv, bx, ty), dt, sc, sr, tg, pl) :: r) = m_ch g r := by
          show (if ph = 7 then sc else if ph = 1 ∧ (gO g nd = 16 ∨ gO g nd = 17) then (r.length, nd, ev) :: m_ch g r else m_ch g r) = _
          rw [if_neg (by omega), if_neg c1]
        rw [ec]
        refine ⟨by omega, ?_⟩
        show 2 * (r.length + 1) + 4 * Z c + w_kX g Z (m_ch g r) + 224 * (5 - m_fc r) ≤ 1400
        omega
    · intro q r' e
      injection e with e1 e2
      rw [← e1]
      exact ⟨h4, h8⟩
    · show 1000 * (gF g - sBe s) + (u_f g Z ((nd, ev, ph, cs), (gt, x0, x1, x2), (la, bv, bx, ty), dt, sc, sr, tg, pl) + u_l g Z r) + 16 * Z c ≤ _
      omega
  | nil =>
    have D : ∀ v, w_ok g V Z pa (2 + 1000 * (gF g - sBe s) + u_f g Z ((nd, ev, ph, []), (gt, x0, x1, x2), (la, bv, bx, ty), dt, sc, sr, tg, pl) + u_l g Z r) (sPr s + 1) (m_dlv r v s) := fun v => w_ok_le (w_dlv W hfr hs) (by omega) (Nat.le_succ _)
    have hph : ph = 0 ∨ ph = 1 ∨ ph = 2 ∨ ph = 3 ∨ ∃ k, ph = k + 4 := by
      rcases Nat.lt_or_ge ph 4 with z | z
      · omega
      · exact Or.inr (Or.inr (Or.inr (Or.inr ⟨ph - 4, by omega⟩)))
    rcases hph with rfl | rfl | rfl | rfl | ⟨k, rfl⟩
    · exact w_ok_le (w_app G F W rfl rfl hfr hs) (by omega) (Nat.le_refl _)
    · show w_ok g V Z pa _ _ (if gO g nd = 10 then (if sBe s < gF g then (0, 0, none, 0, 0, m_new g nd ev :: r, s_be s (sBe s + 1)) else (6, 0, none, 0, 0, ((nd, ev, 1, []), (gt, x0, x1, x2), (la, bv, bx, ty), dt, sc, sr, tg, pl) :: r, s)) else m_dlv r la s)
      split
      · rename_i hO
        split
        · rename_i hb
          obtain ⟨a1, a2, a3⟩ := w_new G (n := nd) (e := ev) f1 (by omega) f2 f8 (f9 (by show (1 : Nat) ≠ 7; decide)) (f7 (by show (1 : Nat) ≠ 7; decide))
          obtain ⟨_, n2, n3, _⟩ := N
          have hn : fr_ph (m_new g nd ev) = 0 := if_neg (by omega)
          refine ⟨⟨by rw [w_fc_ne (by omega)]; exact hfr, hb, hs.2, w_nf (by decide), fun _ => ⟨_, r, rfl, Or.inl hn, ⟨a1, W⟩, fun _ => ⟨hn, rfl, Nat.succ_le_succ (Nat.zero_le _)⟩, Or.inr rfl⟩, fun z => (by cases z), fun z => (by cases z), fun z => (by cases z)⟩, ?_, Nat.le_succ _⟩
          show 3 + 1000 * (gF g - (sBe s + 1)) + (u_f g Z (m_new g nd ev) + u_l g Z r) ≤ _
          omega
        · exact w_done (by decide) (Or.inr (Or.inr ⟨rfl, 0, F, W⟩)) hf hs (Nat.le_succ _)
      · exact D _
    · exact D _
    · refine ⟨⟨hfr, hs.1, hs.2, w_nf (by decide), fun z => (by cases z), fun z => (by cases z), fun z => (by cases z), fun _ => ⟨Or.inl W, f10 rfl⟩⟩, ?_, Nat.le_succ _⟩
      show 1 + 1000 * (gF g - sBe s) + u_l g Z r ≤ _
      omega
    · exact D _
theorem w_take (G : g_w g V Z pa T) {f : Fr} {r : List Fr} {v : Int32} (F : w_f g V Z pa 1 f r) (h4 : fr_ph f ≠ 4) (h8 : fr_ph f ≠ 8) : w_f g V Z pa 0 (m_take g f v) r ∧ fr_ph (m_take g f v) ≠ 4 ∧ fr_ph (m_take g f v) ≠ 8 ∧ m_fc (m_take g f v :: r) = m_fc (f :: r) ∧ u_f g Z (m_take g f v) ≤ u_f g Z f := by
  obtain ⟨⟨nd, ev, ph, rm⟩, ⟨gt, x0, x1, x2⟩, ⟨la, bv, bx, ty⟩, dt, sc, sr, tg, pl⟩ := f
  have h4 : ph ≠ 4 := h4
  have h8 : ph ≠ 8 := h8
  obtain ⟨f1, f2, f3, f4, f5, f6, f7, f8, f9, f10⟩ := F
  have f1 : V nd := f1
  have N := G.1 nd f1
  by_cases p0 : ph = 0
  · subst p0
    have f3 : (gO g nd ≤ 26 ∧ gO g nd ≠ 7 ∧ gO g nd ≠ 11 ∧ ¬ (16 ≤ gO g nd ∧ gO g nd ≤ 18) ∧ rm = (gK g nd).drop (gt + 1) ∧ gt + 1 ≤ (gK g nd).length ∧ (gO g nd = 6 ∨ gO g nd = 9 ∨ gO g nd = 10 ∨ gO g nd = 13 ∨ gO g nd = 15 → gt = 0)) := by
      rcases f3 with h | h | h | h | h | h | h | h | h | h
      · exact h.2
      all_goals omega
    obtain ⟨k1, k2, k3, k4, k5, k6, k7⟩ := f3
    have hb : bv = 0 := by
      rcases f4 with z | ⟨_, _, z⟩
      · exact z
      · rcases z with ⟨z, _⟩ | z | z <;> cases z
    have e : m_take g ((nd, ev, 0, rm), (gt, x0, x1, x2), (la, bv, bx, ty), dt, sc, sr, tg, pl) v = (if gO g nd = 6 then ((nd, ev, 1, [(gK g nd).getD (if v = 0 then 2 else 1) 0]), (gt + 1, v, x1, x2), (0, bv, bx, ty), dt, sc, sr, tg, pl)
      else if gO g nd = 10 then ((nd, ev, 1, rm), (gt + 1, x0, x1, x2), (0, bv, bx, ty), dt, sc, sr, tg, pl)
      else if gO g nd = 9 then ((nd, ev, 1, rm), (gt + 1, v, x1, x2), (0, gA g nd, v, ty), dt, sc, sr, tg, pl)
      else if gO g nd = 13 then ((nd, ev, 1, rm), (gt + 1, v, x1, x2), (0, bv, bx, ty), dt, sc, sr, tg, pl)
      else if gO g nd = 15 then ((nd, ev, 2, rm), (gt + 1, v, x1, x2), (la, bv, bx, ty), dt, sc, sr, tg, pl)
      else ((nd, ev, 0, rm), (gt + 1, (if gt = 0 then v else x0), (if gt = 1 then v else x1), (if gt = 2 then v else x2)), (la, bv, bx, ty), dt, sc, sr, tg, pl)) := rfl
    rw [e]
    have n7 : (0 : Nat) ≠ 7 := by decide
    by_cases o6 : gO g nd = 6
    · rw [if_pos o6]
      have hl := fo_lst (k := 3) N (by omega) (by rw [o6]; rfl)
      have hg := k7 (Or.inl o6)
      subst hg
      have hj : ∃ j, (if v = 0 then 2 else 1) = j ∧ (j = 1 ∨ j = 2) ∧ v = (if j = 2 then 0 else v) ∧ (j = 1 → v ≠ 0) := by
        by_cases hv : v = 0
        · exact ⟨2, if_pos hv, Or.inr rfl, hv, fun z => by cases z⟩
        · exact ⟨1, if_neg hv, Or.inl rfl, rfl, fun _ => hv⟩
      obtain ⟨j, j1, j2, j3, j4⟩ := hj
      rw [j1]
      refine ⟨⟨f1, f2, Or.inr (Or.inl ⟨rfl, o6, Or.inr (Or.inl ⟨rfl, rfl, j, j2, rfl, j3, j4⟩)⟩), Or.inl hb, fun z => ?_, fun z => ?_, fun _ => f7 n7, f8, fun _ => f9 n7, fun z => ?_⟩, (by show (1 : Nat) ≠ 4; decide), (by show (1 : Nat) ≠ 8; decide), rfl, ?_⟩
      · rcases z with z | z <;> cases z
      · cases z
      · cases z
      · rw [u_fT, u_fT, if_neg (by omega), if_neg (by omega), if_neg (by omega), if_neg (by omega), fo_sum_1, k5]
        have hm : (gK g nd).getD j 0 ∈ (gK g nd).drop (0 + 1) := by
          cases hK : gK g nd with
          | nil => rw [hK] at hl; exact absurd hl (by decide)
          | cons a t =>
            rw [hK] at hl
            have hl : 3 ≤ t.length + 1 := hl
            obtain ⟨i, rfl⟩ : ∃ i, j = i + 1 := ⟨j - 1, by omega⟩
            show t.getD i 0 ∈ t
            exact fo_getj (by omega)
        have := fo_sum_mem (Z := Z) hm
        omega
    · rw [if_neg o6]
      by_cases o10 : gO g nd = 10
      · rw [if_pos o10]
        refine ⟨⟨f1, f2, Or.inr (Or.inr (Or.inr (Or.inl ⟨rfl, Or.inr (Or.inr (Or.inl o10)), k5, k6, fun _ => Nat.succ_le_succ (Nat.zero_le _)⟩))), Or.inl hb, fun z => ?_, fun z => ?_, fun _ => f7 n7, f8, fun _ => f9 n7, fun z => ?_⟩, (by show (1 : Nat) ≠ 4; decide), (by show (1 : Nat) ≠ 8; decide), rfl, ?_⟩
        · rcases z with z | z <;> cases z
        · cases z
        · cases z
        · rw [u_fT, u_fT, if_neg (by omega), if_neg (by omega), if_neg (by omega), if_neg (by omega)]
          omega
      · rw [if_neg o10]
        by_cases o9 : gO g nd = 9
        · rw [if_pos o9]
          obtain ⟨_, _, _, _, _, _, _, _, n9, _⟩ := N
          have ha := (n9 (by omega)).2.1 (Or.inl o9)
          refine ⟨⟨f1, f2, Or.inr (Or.inr (Or.inr (Or.inl ⟨rfl, Or.inr (Or.inl o9), k5, k6, fun _ => Nat.succ_le_succ (Nat.zero_le _)⟩))), Or.inr ⟨ha.1, ha.2, Or.inl ⟨rfl, o9⟩⟩, fun z => ?_, fun z => ?_, fun _ => f7 n7, f8, fun _ => f9 n7, fun z => ?_⟩, (by show (1 : Nat) ≠ 4; decide), (by show (1 : Nat) ≠ 8; decide), rfl, ?_⟩
          · rcases z with z | z <;> cases z
          · cases z
          · cases z
          · rw [u_fT, u_fT, if_neg (by omega), if_neg (by omega), if_neg (by omega), if_neg (by omega)]
            omega
        · rw [if_neg o9]
          by_cases o13 : gO g nd = 13
          · rw [if_pos o13]
            refine ⟨⟨f1, f2, Or.inr (Or.inr (Or.inr (Or.inl ⟨rfl, Or.inr (Or.inr (Or.inr (Or.inr o13))), k5, k6, fun _ => Nat.succ_le_succ (Nat.zero_le _)⟩))), Or.inl hb, fun z => ?_, fun z => ?_, fun _ => f7 n7, f8, fun _ => f9 n7, fun z => ?_⟩, (by show (1 : Nat) ≠ 4; decide), (by show (1 : Nat) ≠ 8; decide), rfl, ?_⟩
            · rcases z with z | z <;> cases z
            · cases z
            · cases z
            · rw [u_fT, u_fT, if_neg (by omega), if_neg (by omega), if_neg (by omega), if_neg (by omega)]
              omega
          · rw [if_neg o13]
            by_cases o15 : gO g nd = 15
            · rw [if_pos o15]
              refine ⟨⟨f1, f2, Or.inr (Or.inr (Or.inr (Or.inr (Or.inl ⟨Or.inl rfl, o15, Nat.succ_le_succ (Nat.zero_le _), k5, k6⟩)))), Or.inl hb, fun z => ?_, fun z => ?_, fun _ => f7 n7, f8, fun _ => f9 n7, fun z => ?_⟩, (by show (2 : Nat) ≠ 4; decide), (by show (2 : Nat) ≠ 8; decide), rfl, ?_⟩
              · rcases z with z | z <;> cases z
              · cases z
              · cases z
              · rw [u_fT, u_fT, if_neg (by omega), if_neg (by omega), if_neg (by omega)]
                omega
            · rw [if_neg o15]
              refine ⟨⟨f1, f2, Or.inl ⟨rfl, k1, k2, k3, k4, k5, k6, fun z => by omega⟩, Or.inl hb, fun z => ?_, fun z => ?_, fun _ => f7 n7, f8, fun _ => f9 n7, fun z => ?_⟩, (by show (0 : Nat) ≠ 4; decide), (by show (0 : Nat) ≠ 8; decide), rfl, ?_⟩
              · rcases z with z | z <;> cases z
              · cases z
              · cases z
              · rw [u_fT, u_fT]
                exact Nat.le_refl _
  · have e : m_take g ((nd, ev, ph, rm), (gt, x0, x1, x2), (la, bv, bx, ty), dt, sc, sr, tg, pl) v = ((nd, ev, ph, rm), (gt + 1, x0, x1, x2), (v, bv, bx, ty), dt, sc, sr, tg, pl) := by
      cases ph with
      | zero => exact absurd rfl p0
      | succ k => rfl
    rw [e]
    refine ⟨⟨f1, f2, ?_, f4, f5, f6, f7, f8, f9, f10⟩, h4, h8, rfl, ?_⟩
    · rcases f3 with h | h | h | h | h | h | h | h | h | h
      · exact absurd h.1 p0
      · obtain ⟨h1, h2, h3⟩ := h
        rcases h3 with ⟨z1, z2, z3⟩ | ⟨z, _⟩ | ⟨z, _⟩
        · exact Or.inr (Or.inl ⟨h1, h2, Or.inr (Or.inr ⟨rfl, by omega, z3⟩)⟩)
        · cases z
        · cases z
      · obtain ⟨h1, h2, h3, h6, h7⟩ := h
        exact Or.inr (Or.inr (Or.inl ⟨h1, h2, h3, h6, h7⟩))
      · obtain ⟨h1, h2, h6, h7, h8⟩ := h
        exact Or.inr (Or.inr (Or.inr (Or.inl ⟨h1, h2, h6, h7, fun z => Nat.le_succ_of_le (h8 z)⟩)))
      · obtain ⟨h1, h2, h3, h6, h7⟩ := h
        exact Or.inr (Or.inr (Or.inr (Or.inr (Or.inl ⟨h1, h2, Nat.le_succ_of_le h3, h6, h7⟩))))
      · exact absurd h.1 h4
      · obtain ⟨h1, h2, h3, h6⟩ := h
        exact Or.inr (Or.inr (Or.inr (Or.inr (Or.inr (Or.inr (Or.inl ⟨h1, h2, h3, h6⟩))))))
      · obtain ⟨h1, h2, h3, h6⟩ := h
        exact Or.inr (Or.inr (Or.inr (Or.inr (Or.inr (Or.inr (Or.inr (Or.inl ⟨h1, h2, h3, fun z => by cases z⟩)))))))
      · exact Or.inr (Or.inr (Or.inr (Or.inr (Or.inr (Or.inr (Or.inr (Or.inr (Or.inl h))))))))
      · exact absurd h.1 h8
    · rw [u_fT, u_fT]
      exact Nat.le_refl _
end
end
section
/-! every step keeps it: searching, leaving; the step -/
section
variable {g : mG} {V : Nat → Prop} {Z : Nat → Nat} {pa : Nat → Option Nat} {T : Nat}
theorem m_suf_drop {l r : List Fr} {q : Fr} (h : (q :: r) <:+ l) : l.drop (l.length - r.length) = r ∧ r.length < l.length := by
  have h2 : r <:+ l := (List.suffix_cons q r).trans h
  have e := (List.suffix_iff_eq_drop.mp h2).symm
  have := h.length_le
  have : r.length + 1 ≤ l.length := this
  exact ⟨e, by omega⟩
theorem m_pla_k {n : Nat} (h : n < 392) : ∃ k, k < 1000 ∧ m_pla n = nI k := by
  unfold m_pla
  split
  · exact ⟨_, by omega, rfl⟩
  · exact ⟨_, by omega, rfl⟩
theorem w_cs {n e : Nat} {v : Int32} {s : St} (hs : w_s g s) : w_s g (m_cs g n e v s) ∧ sBe (m_cs g n e v s) = sBe s ∧ sPr (m_cs g n e v s) = sPr s := by
  unfold m_cs
  split
  · exact ⟨hs, rfl, rfl⟩
  · exact ⟨hs, rfl, rfl⟩
theorem w_cv (G : g_w g V Z pa T) {n : Nat} (hV : V n) (h1 : 16 ≤ gO g n) (h2 : gO g n ≤ 18) : m_cv g n = 0 ∨ (8 ≤ m_cv g n ∧ m_cv g n < 12) := by
  obtain ⟨_, _, _, _, _, _, _, _, _, n10, _⟩ := G.1 n hV
  have := n10 h1 h2
  unfold m_cv
  split
  · exact Or.inl rfl
  · exact Or.inr ⟨by omega, this⟩
theorem w_cl (G : g_w g V Z pa T) {n : Nat} (hV : V n) (h1 : 16 ≤ gO g n) (h2 : gO g n ≤ 18) : V ((gK g n).getD 0 0) ∧ pa ((gK g n).getD 0 0) = some n ∧ Z ((gK g n).getD 0 0) + 1 ≤ Z n := by
  have N := G.1 n hV
  have hl := fo_lst (k := 1) N (by omega) (by unfold fo_least; rw [if_neg (by omega), if_neg (by omega), if_neg (by omega)])
  obtain ⟨a, _⟩ := fo_get0 (Z := Z) hl
  obtain ⟨b1, b2⟩ := N.2.2.2.2.1 _ a
  have := fo_sum_mem (Z := Z) a
  have := (w_ks G hV).1
  exact ⟨b1, b2, by omega⟩
theorem w_ar1 {Y zn zc kY kX kY' kX' c y1 L : Nat} (h1 : 2 * Y + 3 * zn + 1 + kY + 170 * (5 - c) ≤ 1040) (h2 : 2 * L + 4 * zn + kX + 224 * (5 - c) ≤ 1400) (k1 : 3 * zc + 1 + kY' ≤ kY) (k2 : 4 * zc + 2 + kX' ≤ kX) (hz : 1 ≤ zn) (hy : y1 ≤ 2 + Y) : 2 * y1 + 3 * zc + 1 + kY' + 170 * (5 - c) ≤ 1040 ∧ 2 * (L + 1 + 1) + 4 * zc + kX' + 224 * (5 - c) ≤ 1400 := by omega
theorem w_ar2 {F b u r z : Nat} (hb : ¬ F ≤ b) (hz : z ≤ 56) (hu : 4 ≤ u) : 1000 * (F - (b + 1)) + (4 + (u + r)) + 16 * z ≤ 1 + 1000 * (F - b) + u + r := by omega
theorem w_srF7 (G : g_w g V Z pa T) {nd ev ph gt bv ty sr : Nat} {rm : List Nat} {x0 x1 x2 la bx dt pl : Int32} {sc : List (Nat × Nat × Nat)} {tg : Option Nat} {r r' : List Fr} {q : Fr} {h n e : Nat} {t : List (Nat × Nat × Nat)} (hp : ph = 4 ∨ ph = 8) (q1 : (q :: r') <:+ r) (q3 : fr_nd q = n) (q4 : fr_ev q = e) (Q : w_f g V Z pa 1 q r') (hO16 : gO g n = 16) : w_f g V Z pa 1 ((n, e, 7, []), (0, 0, 0, 0), (0, m_cv g n, dt, 0), 0, t, 0, none, 0) (((nd, ev, ph, rm), (gt, x0, x1, x2), (la, bv, bx, ty), dt, t, h, tg, pl) :: r) := by
  have hVn : V n := by rw [← q3]; exact Q.1
  have he : e ≤ 5 := by rw [← q4]; exact Q.2.1
  refine ⟨hVn, he, Or.inr (Or.inr (Or.inr (Or.inr (Or.inr (Or.inr (Or.inr (Or.inr (Or.inl ⟨rfl, hO16, rfl⟩)))))))), ?_, fun z => ?_, fun _ => ⟨_, r, rfl, hp, rfl⟩, fun z => absurd rfl z, ?_, fun z => absurd rfl z, fun z => (by cases z)⟩
  · rcases w_cv G hVn (by omega) (by omega) with z | z
    · exact Or.inl z
    · exact Or.inr ⟨z.1, z.2, Or.inr (Or.inr rfl)⟩
  · rcases z with z | z <;> cases z
  · have := Q.2.2.2.2.2.2.2.1
    rw [q3, q4] at this
    exact w_lx_mono (((List.suffix_cons q r').trans q1).trans (List.suffix_cons _ _)) this
theorem w_srFs {nd ev ph gt bv ty sr : Nat} {rm : List Nat} {x0 x1 x2 la bx dt pl : Int32} {sc : List (Nat × Nat × Nat)} {tg : Option Nat} {r r' : List Fr} {q : Fr} {h n e : Nat} {t : List (Nat × Nat × Nat)} (hp : ph = 4 ∨ ph = 8) (F : w_f g V Z pa 1 ((nd, ev, ph, rm), (gt, x0, x1, x2), (la, bv, bx, ty), dt, sc, sr, tg, pl) r) (W : w_l g V Z pa 1 r) (c3 : ((h, n, e) :: t) <:+ m_ch g r) (q1 : (q :: r') <:+ r) (q2 : r'.length = h) (q5 : fr_ph q = 1) (q7 : m_ch g r' = t) : w_f g V Z pa 1 ((nd, ev, ph, rm), (gt, x0, x1, x2), (la, bv, bx, ty), dt, t, h, tg, pl) r := by
  obtain ⟨f1, f2, f3, f4, f5, f6, f7, f8, f9, f10⟩ := F
  obtain ⟨s1, s2, s3, s4, s5⟩ := f5 hp
  obtain ⟨d1, d2⟩ := m_suf_drop q1
  refine ⟨f1, f2, f3, f4, fun _ => ⟨(List.suffix_cons _ _).trans c3, by show h ≤ r.length; omega, ?_, s4, s5.1, fun p r1 e => ?_⟩, fun z => ?_, f7, f8, f9, f10⟩
  · show m_ch g (r.drop (r.length - h)) = t
    rw [← q2, d1]; exact q7
  · have e : r.drop (r.length - h) = p :: r1 := e
    rw [← q2, d1] at e
    exact (w_suf W q1).1.2.2.2.2.2.2.1 (by rw [q5]; decide) p r1 e
  · have z : ph = 7 := z
    omega
theorem w_srH (G : g_w g V Z pa T) {nd ev ph gt bv ty sr : Nat} {rm : List Nat} {x0 x1 x2 la bx dt pl : Int32} {sc : List (Nat × Nat × Nat)} {tg : Option Nat} {r r' : List Fr} {q : Fr} {s : St} {h n e : Nat} {t : List (Nat × Nat × Nat)} (F : w_f g V Z pa 1 ((nd, ev, ph, rm), (gt, x0, x1, x2), (la, bv, bx, ty), dt, sc, sr, tg, pl) r) (W : w_l g V Z pa 1 r) (hp : ph = 4 ∨ ph = 8) (hfr : m_fc r ≤ gD g) (hs : w_s g s) (c3 : ((h, n, e) :: t) <:+ m_ch g r) (q1 : (q :: r') <:+ r) (q2 : r'.length = h) (q3 : fr_nd q = n) (q4 : fr_ev q = e) (q5 : fr_ph q = 1) (q7 : m_ch g r' = t) (hO16 : gO g n = 16) (hbe : ¬ gF g ≤ sBe s) : w_ok g V Z pa (1 + 1000 * (gF g - sBe s) + u_f g Z ((nd, ev, ph, rm), (gt, x0, x1, x2), (la, bv, bx, ty), dt, sc, sr, tg, pl) + u_l g Z r) (sPr s + 1) (m_ev g ((gK g n).getD 0 0) e (((n, e, 7, []), (0, 0, 0, 0), (0, m_cv g n, dt, 0), 0, t, 0, none, 0) :: ((nd, ev, ph, rm), (gt, x0, x1, x2), (la, bv, bx, ty), dt, t, h, tg, pl) :: r) (m_cs g n e dt (s_be s (sBe s + 1)))) := by
  obtain ⟨Q, QW⟩ := w_suf W q1
  have hVn : V n := by rw [← q3]; exact Q.1
  have he : e ≤ 5 := by rw [← q4]; exact Q.2.1
  obtain ⟨cl1, cl2, cl3⟩ := w_cl G hVn (by omega) (by omega)
  have Fs := w_srFs (h := h) hp F W c3 q1 q2 q5 q7
  have F7 : w_f g V Z pa 1 ((n, e, 7, []), (0, 0, 0, 0), (0, m_cv g n, dt, 0), 0, t, 0, none, 0) (((nd, ev, ph, rm), (gt, x0, x1, x2), (la, bv, bx, ty), dt, t, h, tg, pl) :: r) := w_srF7 (sc := sc) (sr := sr) G hp q1 q3 q4 Q hO16
  have fcf : m_fc (((nd, ev, ph, rm), (gt, x0, x1, x2), (la, bv, bx, ty), dt, t, h, tg, pl) :: r) = m_fc r := w_fc_ne (by show ph ≠ 6; omega)
  have ef : m_fc (((n, e, 7, []), (0, 0, 0, 0), (0, m_cv g n, dt, 0), 0, t, 0, none, 0) :: ((nd, ev, ph, rm), (gt, x0, x1, x2), (la, bv, bx, ty), dt, t, h, tg, pl) :: r) = m_fc r := by
    rw [w_fc_ne (by show (7 : Nat) ≠ 6; decide)]; exact fcf
  have ec : m_ch g (((n, e, 7, []), (0, 0, 0, 0), (0, m_cv g n, dt, 0), 0, t, 0, none, 0) :: ((nd, ev, ph, rm), (gt, x0, x1, x2), (la, bv, bx, ty), dt, t, h, tg, pl) :: r) = t := if_pos rfl
  have ey : m_yh (((n, e, 7, []), (0, 0, 0, 0), (0, m_cv g n, dt, 0), 0, t, 0, none, 0) :: ((nd, ev, ph, rm), (gt, x0, x1, x2), (la, bv, bx, ty), dt, t, h, tg, pl) :: r) ≤ 2 + m_yh r := by
    show m_yh r + (if ph = 7 then 0 else if ph = 4 then 2 else 1) + 0 ≤ 2 + m_yh r
    split
    · omega
    · split <;> omega
  have eu : u_f g Z ((nd, ev, ph, rm), (gt, x0, x1, x2), (la, bv, bx, ty), dt, t, h, tg, pl) = u_f g Z ((nd, ev, ph, rm), (gt, x0, x1, x2), (la, bv, bx, ty), dt, sc, sr, tg, pl) := by rw [u_fT, u_fT]
  have e7 : u_f g Z ((n, e, 7, []), (0, 0, 0, 0), (0, m_cv g n, dt, 0), 0, t, 0, none, 0) = 4 := by
    rw [u_fT, if_neg (by omega), if_neg (by omega)]; rfl
  obtain ⟨w1, w2, w3⟩ := w_cs (g := g) (n := n) (e := e) (v := dt) (s := s_be s (sBe s + 1)) ⟨by show sBe s + 1 ≤ gF g; omega, hs.2⟩
  have w2 : sBe (m_cs g n e dt (s_be s (sBe s + 1))) = sBe s + 1 := w2
  have w3 : sPr (m_cs g n e dt (s_be s (sBe s + 1))) = sPr s := w3
  obtain ⟨f1, f2, f3, f4, f5, f6, f7, f8, f9, f10⟩ := F
  obtain ⟨i1, i2⟩ := f9 (by show ph ≠ 7; omega)
  obtain ⟨y1, y2⟩ := w_kY_suf (g := g) (Z := Z) c3
  have y1 : (if gO g n = 16 then 3 * Z ((gK g n).getD 0 0) + 1 else 0) + w_kY g Z t ≤ w_kY g Z (m_ch g r) := y1
  have y2 : (if gO g n = 16 then 4 * Z ((gK g n).getD 0 0) + 2 else 0) + w_kX g Z t ≤ w_kX g Z (m_ch g r) := y2
  rw [if_pos hO16] at y1 y2
  have zn : 1 ≤ Z nd := (G.1 nd f1).2.1
  have zc : Z ((gK g n).getD 0 0) ≤ 56 := (G.1 _ cl1).2.2.1
  have key := w_ev G (l := ((n, e, 7, []), (0, 0, 0, 0), (0, m_cv g n, dt, 0), 0, t, 0, none, 0) :: ((nd, ev, ph, rm), (gt, x0, x1, x2), (la, bv, bx, ty), dt, t, h, tg, pl) :: r) (s := m_cs g n e dt (s_be s (sBe s + 1))) cl1 he ⟨F7, Fs, W⟩ (Or.inr ⟨_, List.mem_cons_self .., cl2, rfl⟩) (by
    unfold w_iq
    rw [ef, ec]
    exact w_ar1 (L := r.length) i1 i2 y1 y2 zn ey) (by rw [ef]; exact hfr) (by
    intro q r' e
    injection e with e1 e2
    rw [← e1]
    exact ⟨by show (7 : Nat) ≠ 4; decide, by show (7 : Nat) ≠ 8; decide⟩) w1
  rw [w2, w3] at key
  refine w_ok_le key ?_ (Nat.le_succ _)
  have e3 : u_l g Z (((n, e, 7, []), (0, 0, 0, 0), (0, m_cv g n, dt, 0), 0, t, 0, none, 0) :: ((nd, ev, ph, rm), (gt, x0, x1, x2), (la, bv, bx, ty), dt, t, h, tg, pl) :: r) = 4 + (u_f g Z ((nd, ev, ph, rm), (gt, x0, x1, x2), (la, bv, bx, ty), dt, sc, sr, tg, pl) + u_l g Z r) := by
    rw [← eu, ← e7]; rfl
  rw [e3]
  exact w_ar2 hbe zc (u_f4 _)
theorem w_srch (G : g_w g V Z pa T) {f : Fr} {r : List Fr} {s : St} (F : w_f g V Z pa 1 f r) (W : w_l g V Z pa 1 r) (hp : fr_ph f = 4 ∨ fr_ph f = 8) (hf : m_fc (f :: r) ≤ gD g) (hs : w_s g s) : w_ok g V Z pa (1 + 1000 * (gF g - sBe s) + u_f g Z f + u_l g Z r) (sPr s + 1) (m_srch g f r s) := by
  have hfr : m_fc r ≤ gD g := Nat.le_trans (Nat.le_add_right _ _) hf
  have u4 := u_f4 (g := g) (Z := Z) f
  have F' := F
  obtain ⟨f1, f2, f3, f4, f5, f6, f7, f8, f9, f10⟩ := F'
  obtain ⟨s1, s2, s3, s4, s5⟩ := f5 hp
  have N := G.1 _ f1
  unfold m_srch
  split
  · split
    · exact w_ok_le (w_dlv W hfr hs) (by omega) (Nat.le_succ _)
    · refine ⟨⟨hf, hs.1, hs.2, w_nf (by decide), fun z => (by cases z), fun z => (by cases z), fun z => (by cases z), fun _ => ⟨Or.inl ⟨F, W⟩, fun h z => (by cases z), fun _ => ⟨s5.1, m_pla_k N.2.2.2.1⟩⟩⟩, ?_, Nat.le_succ _⟩
      show 1 + 1000 * (gF g - sBe s) + (u_f g Z f + u_l g Z r) ≤ _
      omega
  · rename_i h n e t hm
    obtain ⟨c1, c2⟩ := m_sf_some hm
    have c3 : ((h, n, e) :: t) <:+ m_ch g r := c1.trans s1
    obtain ⟨q, r', q1, q2, q3, q4, q5, q6, q7⟩ := w_link W c3
    split
    · rename_i hO
      refine ⟨⟨hf, hs.1, hs.2, w_nf (by decide), fun z => (by cases z), fun z => (by cases z), fun z => (by cases z), fun _ => ⟨Or.inl ⟨F, W⟩, fun k z => ?_, fun z => (by cases z)⟩⟩, ?_, Nat.le_succ _⟩
      · cases z
        exact ⟨q, r', q1.trans (List.suffix_cons _ _), q2, q5, by rw [q3]; omega⟩
      · show 1 + 1000 * (gF g - sBe s) + (u_f g Z f + u_l g Z r) ≤ _
        omega
    · rename_i hO
      have hO16 : gO g n = 16 := by omega
      obtain ⟨⟨nd, ev, ph, rm⟩, ⟨gt, x0, x1, x2⟩, ⟨la, bv, bx, ty⟩, dt, sc, sr, tg, pl⟩ := f
      have fcf : m_fc (((nd, ev, ph, rm), (gt, x0, x1, x2), (la, bv, bx, ty), dt, t, h, tg, pl) :: r) = m_fc r := w_fc_ne (by
        have hp : ph = 4 ∨ ph = 8 := hp
        show ph ≠ 6
        omega)
      show w_ok g V Z pa _ _ (if gF g ≤ sBe s then (6, 0, none, 0, 0, ((nd, ev, ph, rm), (gt, x0, x1, x2), (la, bv, bx, ty), dt, t, h, tg, pl) :: r, s)
      else m_ev g ((gK g n).getD 0 0) e (((n, e, 7, []), (0, 0, 0, 0), (0, m_cv g n, dt, 0), 0, t, 0, none, 0) :: ((nd, ev, ph, rm), (gt, x0, x1, x2), (la, bv, bx, ty), dt, t, h, tg, pl) :: r) (m_cs g n e dt (s_be s (sBe s + 1))))
      split
      · exact w_done (by decide) (Or.inr (Or.inr ⟨rfl, 1, w_srFs (h := h) hp F W c3 q1 q2 q5 q7, W⟩)) (by rw [fcf]; exact hfr) hs (Nat.le_succ _)
      · rename_i hbe
        exact w_srH G F W hp hfr hs c3 q1 q2 q3 q4 q5 q7 hO16 hbe
theorem w_tg_r {tgt : Option Nat} {f : Fr} {r : List Fr} (h : w_tg g tgt (f :: r)) (hn : tgt ≠ some r.length) : w_tg g tgt r := by
  intro k hk
  obtain ⟨q, r', a1, a2, a3⟩ := h k hk
  rcases List.suffix_cons_iff.mp a1 with z | z
  · injection z with z1 z2
    rw [z2] at a2
    exact absurd (by rw [hk, ← a2]) hn
  · exact ⟨q, r', z, a2, a3⟩
theorem w_tg_t {f : Fr} {r : List Fr} (h : w_tg g (some r.length) (f :: r)) : fr_ph f = 1 ∧ (gO g (fr_nd f) = 11 ∨ gO g (fr_nd f) = 13 ∨ gO g (fr_nd f) = 17 ∨ gO g (fr_nd f) = 18) := by
  obtain ⟨q, r', a1, a2, a3⟩ := h _ rfl
  rcases List.suffix_cons_iff.mp a1 with z | z
  · injection z with z1 z2
    rw [z1] at a3
    exact a3
  · have := z.length_le
    have : r'.length + 1 ≤ r.length := this
    omega
theorem w_exit (G : g_w g V Z pa T) {f : Fr} {r : List Fr} {s : St} {v : Int32} {tgt : Option Nat} {t : Nat} {p : Int32} (FW : w_l g V Z pa 1 (f :: r) ∨ w_l g V Z pa 0 (f :: r) ∧ (gO g (fr_nd f) = 12 ∨ gO g (fr_nd f) = 14 ∨ gO g (fr_nd f) = 19)) (ht : w_tg g tgt (f :: r)) (hq : w_tp tgt t p) (hf : m_fc (f :: r) ≤ gD g) (hs : w_s g s) : w_ok g V Z pa (1000 * (gF g - sBe s) + u_f g Z f + u_l g Z r) (sPr s + 1) (m_exit g v tgt t p f r s) := by
  have hfr : m_fc r ≤ gD g := Nat.le_trans (Nat.le_add_right _ _) hf
  have u4 := u_f4 (g := g) (Z := Z) f
  have W : w_l g V Z pa 1 r := by
    rcases FW with z | z
    · exact z.2
    · exact z.1.2
  obtain ⟨⟨nd, ev, ph, rm⟩, ⟨gt, x0, x1, x2⟩, ⟨la, bv, bx, ty⟩, dt, sc, sr, tg, pl⟩ := f
  show w_ok g V Z pa _ _ (if tgt = some r.length then
      (if gO g nd = 17 ∨ gO g nd = 18 then m_ev g ((gK g nd).getD 0 0) ev (((nd, ev, 5, []), (0, x0, x1, x2), (la, m_cv g nd, v, ty), dt, sc, sr, tg, pl) :: r) (m_cs g nd ev v s)
      else m_dlv r v s)
    else if ph = 0 ∧ gO g nd = 15 then (0, 0, none, 0, 0, ((nd, ev, 3, rm), (1, x0, x1, x2), (la, bv, bx, t), v, sc, sr, tgt, p) :: r, s)
    else (3, v, tgt, t, p, r, s))
  split
  · rename_i ha
    subst ha
    obtain ⟨t1, t2⟩ := w_tg_t ht
    have t1 : ph = 1 := t1
    subst t1
    have F : w_f g V Z pa 1 ((nd, ev, 1, rm), (gt, x0, x1, x2), (la, bv, bx, ty), dt, sc, sr, tg, pl) r := by
      rcases FW with z | ⟨_, z⟩
      · exact z.1
      · have t2 : gO g nd = 11 ∨ gO g nd = 13 ∨ gO g nd = 17 ∨ gO g nd = 18 := t2
        have z : gO g nd = 12 ∨ gO g nd = 14 ∨ gO g nd = 19 := z
        omega
    obtain ⟨f1, f2, f3, f4, f5, f6, f7, f8, f9, f10⟩ := F
    have f1 : V nd := f1
    have f2 : ev ≤ 5 := f2
    split
    · rename_i hO
      obtain ⟨cl1, cl2, cl3⟩ := w_cl G f1 (by omega) (by omega)
      obtain ⟨w1, w2, w3⟩ := w_cs (g := g) (n := nd) (e := ev) (v := v) hs
      obtain ⟨i1, i2⟩ := f9 (by show (1 : Nat) ≠ 7; decide)
      have i1 : 2 * m_yh r + 3 * Z nd + 1 + w_kY g Z (m_ch g r) + 170 * (5 - m_fc r) ≤ 1040 := i1
      have i2 : 2 * r.length + 4 * Z nd + w_kX g Z (m_ch g r) + 224 * (5 - m_fc r) ≤ 1400 := i2
      have F5 : w_f g V Z pa 1 ((nd, ev, 5, []), (0, x0, x1, x2), (la, m_cv g nd, v, ty), dt, sc, sr, tg, pl) r := by
        refine ⟨f1, f2, Or.inr (Or.inr (Or.inr (Or.inr (Or.inr (Or.inr (Or.inl ⟨rfl, hO, rfl, rfl⟩)))))), ?_, fun z => ?_, fun z => (by cases z), fun _ => f7 (by show (1 : Nat) ≠ 7; decide), f8, fun _ => f9 (by show (1 : Nat) ≠ 7; decide), fun z => (by cases z)⟩
        · rcases w_cv G f1 (by omega) (by omega) with z | z
          · exact Or.inl z
          · exact Or.inr ⟨z.1, z.2, Or.inr (Or.inl rfl)⟩
        · rcases z with z | z <;> cases z
      have ef : m_fc (((nd, ev, 5, []), (0, x0, x1, x2), (la, m_cv g nd, v, ty), dt, sc, sr, tg, pl) :: r) = m_fc r := w_fc_ne (by show (5 : Nat) ≠ 6; decide)
      have ec : m_ch g (((nd, ev, 5, []), (0, x0, x1, x2), (la, m_cv g nd, v, ty), dt, sc, sr, tg, pl) :: r) = m_ch g r := rfl
      have ey : m_yh (((nd, ev, 5, []), (0, x0, x1, x2), (la, m_cv g nd, v, ty), dt, sc, sr, tg, pl) :: r) = m_yh r + 1 := rfl
      refine w_ok_le (w_ev G cl1 f2 ⟨F5, W⟩ (Or.inr ⟨_, List.mem_cons_self .., cl2, rfl⟩) ?_ (by rw [ef]; exact hfr) ?_ w1) ?_ ?_
      · unfold w_iq
        rw [ef, ec, ey]
        refine ⟨by omega, ?_⟩
        show 2 * (r.length + 1) + 4 * Z ((gK g nd).getD 0 0) + w_kX g Z (m_ch g r) + 224 * (5 - m_fc r) ≤ 1400
        omega
      · intro q r' e
        injection e with e1 e2
        rw [← e1]
        exact ⟨by show (5 : Nat) ≠ 4; decide, by show (5 : Nat) ≠ 8; decide⟩
      · rw [w2]
        have e5 : u_f g Z ((nd, ev, 5, []), (0, x0, x1, x2), (la, m_cv g nd, v, ty), dt, sc, sr, tg, pl) = 4 := by
          rw [u_fT, if_neg (by omega), if_neg (by omega)]; rfl
        have e1 : 4 + 16 * Z ((gK g nd).getD 0 0) ≤ u_f g Z ((nd, ev, 1, rm), (gt, x0, x1, x2), (la, bv, bx, ty), dt, sc, sr, tg, pl) := by
          rw [u_fT, if_pos ⟨rfl, hO⟩]
          omega
        show 1000 * (gF g - sBe s) + (u_f g Z ((nd, ev, 5, []), (0, x0, x1, x2), (la, m_cv g nd, v, ty), dt, sc, sr, tg, pl) + u_l g Z r) + 16 * Z ((gK g nd).getD 0 0) ≤ _
        rw [e5]
        omega
      · rw [w3]
        exact Nat.le_succ _
    · exact w_ok_le (w_dlv W hfr hs) (by omega) (Nat.le_succ _)
  · rename_i ha
    have htr := w_tg_r ht ha
    split
    · rename_i hc
      obtain ⟨c1, c2⟩ := hc
      subst c1
      have F : w_f g V Z pa 1 ((nd, ev, 0, rm), (gt, x0, x1, x2), (la, bv, bx, ty), dt, sc, sr, tg, pl) r := by
        rcases FW with z | ⟨_, z⟩
        · exact z.1
        · have z : gO g nd = 12 ∨ gO g nd = 14 ∨ gO g nd = 19 := z
          omega
      obtain ⟨f1, f2, f3, f4, f5, f6, f7, f8, f9, f10⟩ := F
      have hb : bv = 0 := by
        rcases f4 with z | ⟨_, _, z⟩
        · exact z
        · rcases z with ⟨z, _⟩ | z | z <;> cases z
      have f3 : (gO g nd ≤ 26 ∧ gO g nd ≠ 7 ∧ gO g nd ≠ 11 ∧ ¬ (16 ≤ gO g nd ∧ gO g nd ≤ 18) ∧ rm = (gK g nd).drop (gt + 1) ∧ gt + 1 ≤ (gK g nd).length ∧ (gO g nd = 6 ∨ gO g nd = 9 ∨ gO g nd = 10 ∨ gO g nd = 13 ∨ gO g nd = 15 → gt = 0)) := by
        rcases f3 with h | h | h | h | h | h | h | h | h | h
        · exact h.2
        all_goals omega
      obtain ⟨k1, k2, k3, k4, k5, k6, k7⟩ := f3
      have hg := k7 (by omega)
      subst hg
      refine ⟨⟨hf, hs.1, hs.2, w_nf (by decide), fun _ => ⟨_, r, rfl, Or.inr (Or.inr rfl), ⟨⟨f1, f2, Or.inr (Or.inr (Or.inr (Or.inr (Or.inl ⟨Or.inr rfl, c2, Nat.le_refl _, k5, k6⟩)))), Or.inl hb, fun z => ?_, fun z => (by cases z), fun _ => f7 (by show (0 : Nat) ≠ 7; decide), f8, fun _ => f9 (by show (0 : Nat) ≠ 7; decide), fun _ => ⟨htr, hq⟩⟩, W⟩, fun z => ?_, Or.inl rfl⟩, fun z => (by cases z), fun z => (by cases z), fun z => (by cases z)⟩, ?_, Nat.le_succ _⟩
      · rcases z with z | z <;> cases z
      · have z : gO g nd = 10 := z
        omega
      · have e3 : u_f g Z ((nd, ev, 3, rm), (1, x0, x1, x2), (la, bv, bx, t), v, sc, sr, tgt, p) = 4 + 16 * fo_sum Z rm := by
          rw [u_fT, if_neg (by omega), if_neg (by omega)]; rfl
        have e0 : u_f g Z ((nd, ev, 0, rm), (0, x0, x1, x2), (la, bv, bx, ty), dt, sc, sr, tg, pl) = 4 + 16 * fo_sum Z rm + 3 := by
          rw [u_fT, if_neg (by omega), if_pos ⟨rfl, c2⟩]
        show 3 + 1000 * (gF g - sBe s) + (u_f g Z ((nd, ev, 3, rm), (1, x0, x1, x2), (la, bv, bx, t), v, sc, sr, tgt, p) + u_l g Z r) ≤ _
        rw [e3, e0]
        omega
    · refine ⟨⟨hfr, hs.1, hs.2, w_nf (by decide), fun z => (by cases z), fun z => (by cases z), fun z => (by cases z), fun _ => ⟨Or.inl W, htr, hq⟩⟩, ?_, Nat.le_succ _⟩
      show 1 + 1000 * (gF g - sBe s) + u_l g Z r ≤ _
      omega
theorem w_step (G : g_w g V Z pa T) {m : MS} (W : w_m g V Z pa m) (h : m.1 < 4) : w_ok g V Z pa (u_m g Z m - 1) (u_p m + 1) (m_step g m) ∧ 1 ≤ u_m g Z m := by
  obtain ⟨t, v, tgt, ty, p, l, s⟩ := m
  have h : t < 4 := h
  obtain ⟨a1, a2, a3, _, b0, b1, b2, b3⟩ := W
  have hs : w_s g s := ⟨a2, a3⟩
  have ht : t = 0 ∨ t = 1 ∨ t = 2 ∨ t = 3 := by omega
  rcases ht with rfl | rfl | rfl | rfl
  · obtain ⟨f, r, rfl, c1, c2, c3⟩ := b0 rfl
    have eu : u_m g Z (0, v, tgt, ty, p, f :: r, s) = 3 + 1000 * (gF g - sBe s) + (u_f g Z f + u_l g Z r) := rfl
    refine ⟨w_ok_le (w_pro G c2.1 c2.2 (by omega) (by omega) a1 hs) (by omega) (Nat.le_refl _), by omega⟩
  · obtain ⟨c1, c2⟩ := b1 rfl
    cases l with
    | nil => exact absurd rfl c1
    | cons f r =>
      have eu : u_m g Z (1, v, tgt, ty, p, f :: r, s) = 3 + 1000 * (gF g - sBe s) + (u_f g Z f + u_l g Z r) := rfl
      have u4 := u_f4 (g := g) (Z := Z) f
      refine ⟨?_, by omega⟩
      have hfr : m_fc r ≤ gD g := Nat.le_trans (Nat.le_add_right _ _) a1
      show w_ok g V Z pa _ _ (if fr_ph f = 4 ∨ fr_ph f = 8 then (2, 0, none, 0, 0, f :: r, s)
        else if fr_ph f = 0 ∧ gO g (fr_nd f) = 10 ∧ v = 0 then m_dlv r 0 s
        else m_pro g (m_take g f v) r s)
      split
      · rename_i hp
        refine ⟨⟨a1, a2, a3, w_nf (by decide), fun z => (by cases z), fun z => (by cases z), fun _ => ⟨f, r, rfl, hp, c2⟩, fun z => (by cases z)⟩, ?_, Nat.le_succ _⟩
        show 2 + 1000 * (gF g - sBe s) + (u_f g Z f + u_l g Z r) ≤ _
        omega
      · rename_i hp
        split
        · exact w_ok_le (w_dlv c2.2 hfr hs) (by omega) (Nat.le_succ _)
        · obtain ⟨d1, d2, d3, d4, d5⟩ := w_take (v := v) G c2.1 (fun z => hp (Or.inl z)) (fun z => hp (Or.inr z))
          exact w_ok_le (w_pro G d1 c2.2 d2 d3 (by rw [d4]; exact a1) hs) (by omega) (Nat.le_refl _)
  · obtain ⟨f, r, rfl, c1, c2⟩ := b2 rfl
    have eu : u_m g Z (2, v, tgt, ty, p, f :: r, s) = 2 + 1000 * (gF g - sBe s) + (u_f g Z f + u_l g Z r) := rfl
    exact ⟨w_ok_le (w_srch G c2.1 c2.2 c1 a1 hs) (by omega) (Nat.le_refl _), by omega⟩
  · obtain ⟨c1, c2, c3⟩ := b3 rfl
    cases l with
    | nil =>
      refine ⟨w_done (by decide) (Or.inr (Or.inl ⟨rfl, rfl⟩)) a1 hs (Nat.le_succ _), ?_⟩
      show 1 ≤ 1 + 1000 * (gF g - sBe s) + 0
      omega
    | cons f r =>
      have eu : u_m g Z (3, v, tgt, ty, p, f :: r, s) = 1 + 1000 * (gF g - sBe s) + (u_f g Z f + u_l g Z r) := rfl
      refine ⟨w_ok_le (w_exit G ?_ c2 c3 a1 hs) (by omega) (Nat.le_refl _), by omega⟩
      rcases c1 with z | ⟨f', r', e, z1, z2⟩
      · exact Or.inl z
      · injection e with e1 e2
        subst e1 e2
        exact Or.inr ⟨z1, z2⟩
def m_it (g : mG) : Nat → MS → MS
  | 0, m => m
  | k + 1, m => m_it g k (m_step g m)
theorem m_it_done {m : MS} (h : 4 ≤ m.1) : ∀ k, m_it g k m = m
  | 0 => rfl
  | k + 1 => by
    have e : m_step g m = m := by
      obtain ⟨t, v, tgt, ty, p, l, s⟩ := m
      obtain ⟨j, rfl⟩ : ∃ j, t = j + 4 := ⟨t - 4, by have : 4 ≤ t := h; omega⟩
      rfl
    show m_it g k (m_step g m) = m
    rw [e]; exact m_it_done h k
end
end
section
/-- is-a, by the parents -/
def fo_ia (p : Nat → Nat) : Nat → Nat → Nat → Bool
  | 0, _, _ => false
  | k + 1, t, a => if t = a then true else if t ≤ a then false else fo_ia p k (p t) a
end
section
/-! the class's side: its state while it runs, its frames, the loop of run -/
def x_ix : List (Nat × Nat × Nat) → Int32
  | [] => -1
  | (h, _, _) :: _ => nI h
def x_tg : Option Nat → Int32
  | none => -1
  | some h => nI h
def x_sp (v h : Int32) : Option Int32 → Prop
  | none => h = 0
  | some x => h = 1 ∧ v = x
def xF (g : mG) (fr : Nat → Int32) (gl : Nat → Option Int32) (b : Nat) (f : Fr) (r : List Fr) : Prop := match f with
  | ((nd, ev, ph, rm), (gt, x0, x1, x2), (la, bv, bx, ty), dt, sc, sr, tg, pl) => fr (b + 0) = nI nd ∧ fr (b + 1) = nI ev ∧ fr (b + 2) = nI (if ph = 8 then 4 else ph) ∧ (∀ c cs, rm = c :: cs → fr (b + 3) = nI c) ∧ fr (b + 4) = nI rm.length ∧
    (ph = 0 ∨ ph = 2 ∨ (ph = 1 ∧ gO g nd = 13) → 0 < gt → fr (b + 5) = x0) ∧ (ph = 0 → 1 < gt → fr (b + 6) = x1) ∧ (ph = 0 → 2 < gt → fr (b + 7) = x2) ∧
    fr (b + 8) = x_ix (m_ch g r) ∧ fr (b + 9) = nI (m_fc r) ∧ fr (b + 10) = nI bv ∧ (bv ≠ 0 → x_sp (fr (b + 11)) (fr (b + 12)) (m_cur gl bv r)) ∧
    (ph = 4 ∨ ph = 8 → fr (b + 13) = nI ty ∧ fr (b + 14) = dt ∧ fr (b + 15) = x_ix sc) ∧
    (ph = 3 → fr (b + 14) = dt ∧ fr (b + 15) = x_tg tg ∧ (tg = none → fr (b + 13) = nI ty ∧ fr (b + 16) = pl))
def xL (g : mG) (fr : Nat → Int32) (gl : Nat → Option Int32) : List Fr → Prop
  | [] => True
  | f :: r => xF g fr gl (17 * r.length) f r ∧ xL g fr gl r
def xSp (sv sh : Nat → Int32) (gl : Nat → Option Int32) (l : List Fr) : Prop := ∀ j, j < 4 → x_sp (sv j) (sh j) (m_cur gl (8 + j) l)
def xU (g : mG) (f_openCount f_typeCount : Int32) (a_nodeOp a_nodeA a_nodeB a_nodeParts a_nodeSize a_slotSize a_slotParams a_openLists a_typeParent : Nat → Int32) (z : Int32 × Int32 × Int32 × Int32 × Int32) (s : St) (n : Nat) (ca inf mo cn ce re et ex ey ep : Int32) (sv sh fr : Nat → Int32) : SX := (f_openCount, f_typeCount, nI (sPr s), nI (gD g), nI (gF g), z.1, z.2.1, z.2.2.1, z.2.2.2.1, z.2.2.2.2, nI (sBe s), nI n, mo, cn, ce, re, ca, inf, et, ex, ey, ep, a_nodeOp, a_nodeA, a_nodeB, a_nodeParts, a_nodeSize, a_slotSize, a_slotParams, a_openLists, a_typeParent, sCe s, sLo s, sv, sh, sOu s, fr)
def x_z0 : Int32 × Int32 × Int32 × Int32 × Int32 := (2, 0, 0, 0, -1)
def x_z (m : MS) : Int32 × Int32 × Int32 × Int32 × Int32 := match m with
  | (4, v, _) => (0, v, 0, 0, -1)
  | (5, v, _, t, p, _) => (1, 0, nI t, v, p)
  | _ => (2, 0, 0, 0, -1)
def x_mo : Nat → Int32
  | 0 => 1
  | 1 => 4
  | 2 => 5
  | 3 => 6
  | _ => 7
def px_R (g : mG) (f_openCount f_typeCount : Int32) (a_nodeOp a_nodeA a_nodeB a_nodeParts a_nodeSize a_slotSize a_slotParams a_openLists a_typeParent : Nat → Int32) (m : MS) (u : SX) : Prop := ∃ cn ce re et ex ey ep : Int32, ∃ sv sh fr : Nat → Int32, xSp sv sh (sGl m.2.2.2.2.2.2) m.2.2.2.2.2.1 ∧ xL g fr (sGl m.2.2.2.2.2.2) m.2.2.2.2.2.1 ∧
  (m.1 = 0 → ∀ f r, m.2.2.2.2.2.1 = f :: r → fr_ph f = 1 → re = fr_la f) ∧ (m.1 = 1 → re = m.2.1) ∧ (m.1 = 3 → ex = m.2.1 ∧ et = x_tg m.2.2.1 ∧ (m.2.2.1 = none → ey = nI m.2.2.2.1 ∧ ep = m.2.2.2.2.1)) ∧
  u = xU g f_openCount f_typeCount a_nodeOp a_nodeA a_nodeB a_nodeParts a_nodeSize a_slotSize a_slotParams a_openLists a_typeParent (x_z m) m.2.2.2.2.2.2 m.2.2.2.2.2.1.length (nI (m_fc m.2.2.2.2.2.1)) (x_ix (m_ch g m.2.2.2.2.2.1)) (x_mo m.1) cn ce re et ex ey ep sv sh fr
/-- the program as the class keeps it -/
def xG (g : mG) (V : Nat → Prop) (Z : Nat → Nat) (f_openCount f_typeCount : Int32) (a_nodeOp a_nodeA a_nodeB a_nodeParts a_nodeSize a_slotSize a_slotParams a_openLists a_typeParent : Nat → Int32) : Prop :=
  (∀ n, V n → a_nodeOp n = nI (gO g n) ∧ a_nodeParts n = nI (gK g n).length ∧ a_nodeSize n = nI (Z n) ∧ (gO g n = 27 → a_nodeA n = gN g n) ∧ (gO g n = 28 ∨ fo_ma (gO g n) → a_nodeA n = nI (gA g n)) ∧ (16 ≤ gO g n → gO g n ≤ 18 → a_nodeB n = nI (gB g n)) ∧ (gO g n = 12 → gR g n ≤ n ∧ a_nodeB n = nI (n - gR g n)) ∧ (27 ≤ gO g n → gK g n = [])) ∧
  (∀ f, f < 6 → a_slotSize f = nI (gC g f) ∧ gC g f ≤ 56 ∧ a_slotParams f = nI (gP g f)) ∧
  (∃ p : Nat → Nat, (∀ t, t < 16 → a_typeParent t = nI (p t) ∧ (1 ≤ t → p t < t)) ∧ ∀ t a, t ≤ 15 → gI g t a = fo_ia p 16 t a)
theorem up_s {f : Nat → Int32} {b c : Nat} {x : Int32} : upd f (b + c) x (b + c) = x := if_pos rfl
theorem up_n {f : Nat → Int32} {b c d : Nat} {x : Int32} (h : d ≠ c) : upd f (b + c) x (b + d) = f (b + d) := if_neg (by omega)
theorem xx_w {b : Nat} {c : Int32} {N : Nat} {fr : Nat → Int32} {v : Int32} {Q : (Nat → Int32) → Prop} (k : Nat) (hk : b + k < N) (h : Q (upd fr (b + k) v)) (hc : c = nI k := by rfl) (hN : N < 2 ^ 31 := by decide) : vp_in (nI b + c) N ∧ ∀ y, y = upd fr (nI b + c).toNatClampNeg v → Q y := by
  subst hc
  rw [nI_add, nI_clamp (by omega)]
  exact ⟨vp_in_nI hk hN, fun y hy => by rw [hy]; exact h⟩
theorem xx_r {b : Nat} {c : Int32} {N : Nat} {fr : Nat → Int32} {Q : Int32 → Prop} (k : Nat) (hk : b + k < N) (h : Q (fr (b + k))) (hc : c = nI k := by rfl) (hN : N < 2 ^ 31 := by decide) : vp_in (nI b + c) N ∧ ∀ y, y = fr (nI b + c).toNatClampNeg → Q y := by
  subst hc
  rw [nI_add, nI_clamp (by omega)]
  exact ⟨vp_in_nI hk hN, fun y hy => by rw [hy]; exact h⟩
theorem xx_i {b : Nat} {c : Int32} {N : Nat} (k : Nat) (hk : b + k < N) (hc : c = nI k := by rfl) (hN : N < 2 ^ 31 := by decide) : vp_in (nI b + c) N := by
  subst hc
  rw [nI_add]
  exact vp_in_nI hk hN
theorem xx_c {b : Nat} (c : Int32) (k : Nat) (hk : b + k < 2 ^ 31) (hc : c = nI k := by rfl) : (nI b + c).toNatClampNeg = b + k := by
  subst hc
  rw [nI_add, nI_clamp (by omega)]
theorem xx_n {n N : Nat} {a : Nat → Int32} {Q : Int32 → Prop} (hn : n < N) (h : Q (a n)) (hN : N < 2 ^ 31 := by decide) : vp_in (nI n) N ∧ ∀ y, y = a (nI n).toNatClampNeg → Q y := by
  rw [nI_clamp (by omega)]
  exact ⟨vp_in_nI hn hN, fun y hy => by rw [hy]; exact h⟩
theorem xF_keep {g : mG} {fr fr' : Nat → Int32} {gl : Nat → Option Int32} {b : Nat} {f : Fr} {r : List Fr} (h : xF g fr gl b f r) (e : ∀ c, c < 17 → fr' (b + c) = fr (b + c)) : xF g fr' gl b f r := by
  obtain ⟨⟨nd, ev, ph, rm⟩, ⟨gt, x0, x1, x2⟩, ⟨la, bv, bx, ty⟩, dt, sc, sr, tg, pl⟩ := f
  have h : xF g fr gl b ((nd, ev, ph, rm), (gt, x0, x1, x2), (la, bv, bx, ty), dt, sc, sr, tg, pl) r := h
  unfold xF at h ⊢
  rw [e 0 (by decide), e 1 (by decide), e 2 (by decide), e 3 (by decide), e 4 (by decide), e 5 (by decide), e 6 (by decide), e 7 (by decide), e 8 (by decide), e 9 (by decide), e 10 (by decide), e 11 (by decide), e 12 (by decide), e 13 (by decide), e 14 (by decide), e 15 (by decide), e 16 (by decide)]
  exact h
theorem xL_keep {g : mG} {fr fr' : Nat → Int32} {gl : Nat → Option Int32} : ∀ {l : List Fr}, xL g fr gl l → (∀ j, j < 17 * l.length → fr' j = fr j) → xL g fr' gl l
  | [], _, _ => trivial
  | f :: r, h, e => by
    have e : ∀ j, j < 17 * (r.length + 1) → fr' j = fr j := e
    exact ⟨xF_keep h.1 (fun c hc => e _ (by omega)), xL_keep h.2 (fun j hj => e j (by omega))⟩
theorem xL_at {g : mG} {fr : Nat → Int32} {gl : Nat → Option Int32} : ∀ {l : List Fr}, xL g fr gl l → ∀ {q : Fr} {r : List Fr}, (q :: r) <:+ l → xF g fr gl (17 * r.length) q r
  | [], _, q, r, hs => absurd (List.suffix_nil.mp hs) (by simp)
  | f :: r0, h, q, r, hs => by
    rcases List.suffix_cons_iff.mp hs with k | k
    · injection k with k1 k2
      subst k1 k2
      exact h.1
    · exact xL_at h.2 k
theorem xSp_c {sv sh : Nat → Int32} {gl : Nat → Option Int32} {l : List Fr} {f : Fr} (hb : fr_bv f = 0) (h : xSp sv sh gl l) : xSp sv sh gl (f :: l) := by
  intro j hj
  have e : m_cur gl (8 + j) (f :: l) = m_cur gl (8 + j) l := if_neg (by rw [hb]; omega)
  rw [e]
  exact h j hj
theorem xSp_d {sv sh : Nat → Int32} {gl : Nat → Option Int32} {l : List Fr} {f : Fr} (hb : fr_bv f = 0) (h : xSp sv sh gl (f :: l)) : xSp sv sh gl l := by
  intro j hj
  have e : m_cur gl (8 + j) (f :: l) = m_cur gl (8 + j) l := if_neg (by rw [hb]; omega)
  rw [← e]
  exact h j hj
def xR (post : Int32 → SX → Prop) (N i : Nat) (u : SX) : Prop := match u with
  | (f_openCount, f_typeCount, f_printedCount, f_depthLimit, f_fuelLimit, f_lastStatus, f_lastValue, f_lastError, f_lastDatum, f_lastPlace, f_beatsUsed, f_frameCount, f_mode, f_currentNode, f_currentEnv, f_result, f_calls, f_inForce, f_exitTarget, f_exitValue, f_exitType, f_exitPlace, a_nodeOp, a_nodeA, a_nodeB, a_nodeParts, a_nodeSize, a_slotSize, a_slotParams, a_openLists, a_typeParent, a_elements, a_locals, a_specialValue, a_specialHas, a_printed, a_frames) => wX_run_15 post N (nI i) f_openCount f_typeCount f_printedCount f_depthLimit f_fuelLimit f_lastStatus f_lastValue f_lastError f_lastDatum f_lastPlace f_beatsUsed f_frameCount f_mode f_currentNode f_currentEnv f_result f_calls f_inForce f_exitTarget f_exitValue f_exitType f_exitPlace a_nodeOp a_nodeA a_nodeB a_nodeParts a_nodeSize a_slotSize a_slotParams a_openLists a_typeParent a_elements a_locals a_specialValue a_specialHas a_printed a_frames
theorem x_go {post : Int32 → SX → Prop} {N i : Nat} {f_openCount f_typeCount f_printedCount f_depthLimit f_fuelLimit f_lastStatus f_lastValue f_lastError f_lastDatum f_lastPlace f_beatsUsed f_frameCount f_mode f_currentNode f_currentEnv f_result f_calls f_inForce f_exitTarget f_exitValue f_exitType f_exitPlace : Int32} {a_nodeOp a_nodeA a_nodeB a_nodeParts a_nodeSize a_slotSize a_slotParams a_openLists a_typeParent a_elements a_locals a_specialValue a_specialHas a_printed a_frames : Nat → Int32} (hi : i < 10000000) (h7 : ¬ f_mode = 7) (h : wpX_step (fun u => xR post N (i + 1) u) (f_openCount, f_typeCount, f_printedCount, f_depthLimit, f_fuelLimit, f_lastStatus, f_lastValue, f_lastError, f_lastDatum, f_lastPlace, f_beatsUsed, f_frameCount, f_mode, f_currentNode, f_currentEnv, f_result, f_calls, f_inForce, f_exitTarget, f_exitValue, f_exitType, f_exitPlace, a_nodeOp, a_nodeA, a_nodeB, a_nodeParts, a_nodeSize, a_slotSize, a_slotParams, a_openLists, a_typeParent, a_elements, a_locals, a_specialValue, a_specialHas, a_printed, a_frames)) : xR post (N + 1) i (f_openCount, f_typeCount, f_printedCount, f_depthLimit, f_fuelLimit, f_lastStatus, f_lastValue, f_lastError, f_lastDatum, f_lastPlace, f_beatsUsed, f_frameCount, f_mode, f_currentNode, f_currentEnv, f_result, f_calls, f_inForce, f_exitTarget, f_exitValue, f_exitType, f_exitPlace, a_nodeOp, a_nodeA, a_nodeB, a_nodeParts, a_nodeSize, a_slotSize, a_slotParams, a_openLists, a_typeParent, a_elements, a_locals, a_specialValue, a_specialHas, a_printed, a_frames) := by
  show wX_run_15 post (N + 1) (nI i) f_openCount f_typeCount f_printedCount f_depthLimit f_fuelLimit f_lastStatus f_lastValue f_lastError f_lastDatum f_lastPlace f_beatsUsed f_frameCount f_mode f_currentNode f_currentEnv f_result f_calls f_inForce f_exitTarget f_exitValue f_exitType f_exitPlace a_nodeOp a_nodeA a_nodeB a_nodeParts a_nodeSize a_slotSize a_slotParams a_openLists a_typeParent a_elements a_locals a_specialValue a_specialHas a_printed a_frames
  rw [wX_run_15]
  refine br_f (nI_ge (b := 10000000) hi (by decide)) (br_f h7 ?_)
  have e : (fun u : SX => match u with | (f_openCount_160, f_typeCount_160, f_printedCount_160, f_depthLimit_160, f_fuelLimit_160, f_lastStatus_160, f_lastValue_160, f_lastError_160, f_lastDatum_160, f_lastPlace_160, f_beatsUsed_160, f_frameCount_160, f_mode_160, f_currentNode_160, f_currentEnv_160, f_result_160, f_calls_160, f_inForce_160, f_exitTarget_160, f_exitValue_160, f_exitType_160, f_exitPlace_160, a_nodeOp_160, a_nodeA_160, a_nodeB_160, a_nodeParts_160, a_nodeSize_160, a_slotSize_160, a_slotParams_160, a_openLists_160, a_typeParent_160, a_elements_160, a_locals_160, a_specialValue_160, a_specialHas_160, a_printed_160, a_frames_160) => ∀ y : Int32, y = nI i + 1 → wX_run_15 post N y f_openCount_160 f_typeCount_160 f_printedCount_160 f_depthLimit_160 f_fuelLimit_160 f_lastStatus_160 f_lastValue_160 f_lastError_160 f_lastDatum_160 f_lastPlace_160 f_beatsUsed_160 f_frameCount_160 f_mode_160 f_currentNode_160 f_currentEnv_160 f_result_160 f_calls_160 f_inForce_160 f_exitTarget_160 f_exitValue_160 f_exitType_160 f_exitPlace_160 a_nodeOp_160 a_nodeA_160 a_nodeB_160 a_nodeParts_160 a_nodeSize_160 a_slotSize_160 a_slotParams_160 a_openLists_160 a_typeParent_160 a_elements_160 a_locals_160 a_specialValue_160 a_specialHas_160 a_printed_160 a_frames_160) = fun u => xR post N (i + 1) u := by
    funext u
    obtain ⟨f_openCount_160, f_typeCount_160, f_printedCount_160, f_depthLimit_160, f_fuelLimit_160, f_lastStatus_160, f_lastValue_160, f_lastError_160, f_lastDatum_160, f_lastPlace_160, f_beatsUsed_160, f_frameCount_160, f_mode_160, f_currentNode_160, f_currentEnv_160, f_result_160, f_calls_160, f_inForce_160, f_exitTarget_160, f_exitValue_160, f_exitType_160, f_exitPlace_160, a_nodeOp_160, a_nodeA_160, a_nodeB_160, a_nodeParts_160, a_nodeSize_160, a_slotSize_160, a_slotParams_160, a_openLists_160, a_typeParent_160, a_elements_160, a_locals_160, a_specialValue_160, a_specialHas_160, a_printed_160, a_frames_160⟩ := u
    refine propext ⟨fun h => h _ (nI_1 i).symm, fun h y hy => ?_⟩
    rw [hy, nI_1]
    exact h
  exact (congrArg (fun Q => wpX_step Q (f_openCount, f_typeCount, f_printedCount, f_depthLimit, f_fuelLimit, f_lastStatus, f_lastValue, f_lastError, f_lastDatum, f_lastPlace, f_beatsUsed, f_frameCount, f_mode, f_currentNode, f_currentEnv, f_result, f_calls, f_inForce, f_exitTarget, f_exitValue, f_exitType, f_exitPlace, a_nodeOp, a_nodeA, a_nodeB, a_nodeParts, a_nodeSize, a_slotSize, a_slotParams, a_openLists, a_typeParent, a_elements, a_locals, a_specialValue, a_specialHas, a_printed, a_frames)) e).mpr h
theorem xx_ne {a b : Nat} (h : a ≠ b) (ha : a < 2 ^ 31) (hb : b < 2 ^ 31) : ¬ nI a = nI b := fun z => h ((nI_eq ha hb).mp z)
theorem x_top {f_openCount f_typeCount f_printedCount f_depthLimit f_fuelLimit f_lastStatus f_lastValue f_lastError f_lastDatum f_lastPlace f_beatsUsed f_frameCount f_mode f_currentNode f_currentEnv f_result f_calls f_inForce f_exitTarget f_exitValue f_exitType f_exitPlace : Int32} {a_nodeOp a_nodeA a_nodeB a_nodeParts a_nodeSize a_slotSize a_slotParams a_openLists a_typeParent a_elements a_locals a_specialValue a_specialHas a_printed a_frames : Nat → Int32} {Q : Int32 → Prop} (n : Nat) (h : Q (nI (17 * n))) (hf : f_frameCount = nI (n + 1) := by rfl) : wpX_topFrame Q (f_openCount, f_typeCount, f_printedCount, f_depthLimit, f_fuelLimit, f_lastStatus, f_lastValue, f_lastError, f_lastDatum, f_lastPlace, f_beatsUsed, f_frameCount, f_mode, f_currentNode, f_currentEnv, f_result, f_calls, f_inForce, f_exitTarget, f_exitValue, f_exitType, f_exitPlace, a_nodeOp, a_nodeA, a_nodeB, a_nodeParts, a_nodeSize, a_slotSize, a_slotParams, a_openLists, a_typeParent, a_elements, a_locals, a_specialValue, a_specialHas, a_printed, a_frames) := by
  subst hf
  show Q ((nI (n + 1) - 1) * 17)
  rw [nI_pred, show (17 : Int32) = nI 17 from rfl, pk_mul, Nat.mul_comm]
  exact h
section
variable {g : mG} {V : Nat → Prop} {Z : Nat → Nat} {pa : Nat → Option Nat} {T : Nat} {f_openCount f_typeCount : Int32} {a_nodeOp a_nodeA a_nodeB a_nodeParts a_nodeSize a_slotSize a_slotParams a_openLists a_typeParent : Nat → Int32} {s : St} {n : Nat} {ca inf mo cn ce re et ex ey ep : Int32} {sv sh fr : Nat → Int32} {l r : List Fr} {f : Fr} {P : SX → Prop}
theorem x_give (v : Int32) (h1 : xSp sv sh (sGl s) l) (h2 : xL g fr (sGl s) l) (hl : l.length < 2 ^ 31) (h : ∀ u', px_R g f_openCount f_typeCount a_nodeOp a_nodeA a_nodeB a_nodeParts a_nodeSize a_slotSize a_slotParams a_openLists a_typeParent (m_dlv l v s) u' → P u') : wpX_giveResult P (xU g f_openCount f_typeCount a_nodeOp a_nodeA a_nodeB a_nodeParts a_nodeSize a_slotSize a_slotParams a_openLists a_typeParent x_z0 s l.length (nI (m_fc l)) (x_ix (m_ch g l)) mo cn ce re et ex ey ep sv sh fr) v := by
  cases l with
  | nil =>
    refine br_t (by rfl) (h _ ⟨cn, ce, v, et, ex, ey, ep, sv, sh, fr, h1, h2, fun z => (by cases z), fun z => (by cases z), fun z => (by cases z), rfl⟩)
  | cons f r =>
    refine br_f ?_ (h _ ⟨cn, ce, v, et, ex, ey, ep, sv, sh, fr, h1, h2, fun z => (by cases z), fun _ => rfl, fun z => (by cases z), rfl⟩)
    exact xx_ne (a := r.length + 1) (b := 0) (by omega) hl (by decide)
theorem x_sub8 {v : Nat} (h1 : 8 ≤ v) : nI v - 8 = nI (v - 8) := pk_sub (b := 8) h1
theorem x_pop (h1 : xSp sv sh (sGl s) (f :: r)) (h2 : xL g fr (sGl s) (f :: r)) (hb : fr_bv f = 0 ∨ (8 ≤ fr_bv f ∧ fr_bv f < 12)) (hl : r.length < 700) (h : ∀ sv' sh', xSp sv' sh' (sGl s) r → P (xU g f_openCount f_typeCount a_nodeOp a_nodeA a_nodeB a_nodeParts a_nodeSize a_slotSize a_slotParams a_openLists a_typeParent x_z0 s r.length (nI (m_fc r)) (x_ix (m_ch g r)) mo cn ce re et ex ey ep sv' sh' fr)) : wpX_popFrame P (xU g f_openCount f_typeCount a_nodeOp a_nodeA a_nodeB a_nodeParts a_nodeSize a_slotSize a_slotParams a_openLists a_typeParent x_z0 s (r.length + 1) ca inf mo cn ce re et ex ey ep sv sh fr) := by
  obtain ⟨⟨nd, ev, ph, rm⟩, ⟨gt, x0, x1, x2⟩, ⟨la, bv, bx, ty⟩, dt, sc, sr, tg, pl⟩ := f
  have hb : bv = 0 ∨ (8 ≤ bv ∧ bv < 12) := hb
  obtain ⟨⟨c0, c1, c2, c3, c4, c5, c6, c7, c8, c9, c10, c11, c12, c13⟩, _⟩ := h2
  have hk : ∀ sv' sh', xSp sv' sh' (sGl s) r → wX_popFrame_63 P (nI (17 * r.length)) f_openCount f_typeCount (nI (sPr s)) (nI (gD g)) (nI (gF g)) (x_z0.1) (x_z0.2.1) (x_z0.2.2.1) (x_z0.2.2.2.1) (x_z0.2.2.2.2) (nI (sBe s)) (nI (r.length + 1)) mo cn ce re ca inf et ex ey ep a_nodeOp a_nodeA a_nodeB a_nodeParts a_nodeSize a_slotSize a_slotParams a_openLists a_typeParent (sCe s) (sLo s) (sv') (sh') (sOu s) fr := by
    intro sv' sh' hs
    have := h sv' sh' hs
    refine xx_r (Q := fun y => vp_in _ _ ∧ _) 8 (by omega) (xx_r 9 (by omega) (nm_r (nI_pred r.length) ?_))
    rw [c8, c9]
    exact this
  unfold wpX_popFrame xU
  dsimp only
  refine x_top r.length ?_
  refine xx_r 10 (by omega) ?_
  rw [c10]
  rcases hb with hb | hb
  · subst hb
    refine br_t rfl (hk sv sh ?_)
    intro j hj
    have := h1 j hj
    have e : m_cur (sGl s) (8 + j) (((nd, ev, ph, rm), (gt, x0, x1, x2), (la, 0, bx, ty), dt, sc, sr, tg, pl) :: r) = m_cur (sGl s) (8 + j) r := if_neg (by show ¬ 0 = 8 + j; omega)
    rw [e] at this
    exact this
  · have hs := c11 (by omega)
    have key : ∀ h' : Int32, h' = (if fr (17 * r.length + 12) = 0 then 0 else 1) → xSp (upd sv (bv - 8) (fr (17 * r.length + 11))) (upd sh (bv - 8) h') (sGl s) r := by
      intro h' hh j hj
      by_cases e : j = bv - 8
      · rw [e, pk_us, pk_us, hh, show 8 + (bv - 8) = bv from by omega]
        cases hm : m_cur (sGl s) bv r with
        | none =>
          rw [hm] at hs
          have hs : fr (17 * r.length + 12) = 0 := hs
          show (if fr (17 * r.length + 12) = 0 then (0 : Int32) else 1) = 0
          rw [if_pos hs]
        | some x =>
          rw [hm] at hs
          have hs : fr (17 * r.length + 12) = 1 ∧ fr (17 * r.length + 11) = x := hs
          show (if fr (17 * r.length + 12) = 0 then (0 : Int32) else 1) = 1 ∧ _
          rw [hs.1, if_neg (by decide)]
          exact ⟨rfl, hs.2⟩
      · rw [pk_un e, pk_un e]
        have := h1 j hj
        have e2 : m_cur (sGl s) (8 + j) (((nd, ev, ph, rm), (gt, x0, x1, x2), (la, bv, bx, ty), dt, sc, sr, tg, pl) :: r) = m_cur (sGl s) (8 + j) r := if_neg (by show ¬ bv = 8 + j; omega)
        rw [e2] at this
        exact this
    refine br_f (xx_ne (b := 0) (by omega) (by omega) (by decide)) ⟨xx_i 11 (by omega), ?_⟩
    rw [x_sub8 hb.1, xx_c 11 11 (by omega), nI_clamp (by omega)]
    refine ⟨vp_in_nI (by omega) (by decide), nm_e ⟨xx_i 12 (by omega), ?_⟩⟩
    rw [xx_c 12 12 (by omega)]
    have b0 : vp_nar .boolean 0 = 0 := by decide
    have b1 : vp_nar .boolean 1 = 1 := by decide
    refine fb_if Iff.rfl (fun e => ?_) (fun e => ?_)
    · refine ⟨vp_in_nI (by omega) (by decide), ?_⟩
      rw [nI_clamp (by omega), b0]
      exact nm_e (hk _ _ (key 0 (by rw [if_pos e])))
    · refine ⟨vp_in_nI (by omega) (by decide), ?_⟩
      rw [nI_clamp (by omega), b1]
      exact nm_e (hk _ _ (key 1 (by rw [if_neg e])))
end
end
section
/-! the class's side: beginning a node -/
theorem x_finish {f_openCount f_typeCount f_printedCount f_depthLimit f_fuelLimit f_lastStatus f_lastValue f_lastError f_lastDatum f_lastPlace f_beatsUsed f_frameCount f_mode f_currentNode f_currentEnv f_result f_calls f_inForce f_exitTarget f_exitValue f_exitType f_exitPlace : Int32} {a_nodeOp a_nodeA a_nodeB a_nodeParts a_nodeSize a_slotSize a_slotParams a_openLists a_typeParent a_elements a_locals a_specialValue a_specialHas a_printed a_frames : Nat → Int32} {P : SX → Prop} {v : Int32} (h : P (f_openCount, f_typeCount, f_printedCount, f_depthLimit, f_fuelLimit, f_lastStatus, f_lastValue, f_lastError, f_lastDatum, f_lastPlace, f_beatsUsed, f_frameCount, 3, f_currentNode, f_currentEnv, v, f_calls, f_inForce, f_exitTarget, f_exitValue, f_exitType, f_exitPlace, a_nodeOp, a_nodeA, a_nodeB, a_nodeParts, a_nodeSize, a_slotSize, a_slotParams, a_openLists, a_typeParent, a_elements, a_locals, a_specialValue, a_specialHas, a_printed, a_frames)) : wpX_finish P (f_openCount, f_typeCount, f_printedCount, f_depthLimit, f_fuelLimit, f_lastStatus, f_lastValue, f_lastError, f_lastDatum, f_lastPlace, f_beatsUsed, f_frameCount, f_mode, f_currentNode, f_currentEnv, f_result, f_calls, f_inForce, f_exitTarget, f_exitValue, f_exitType, f_exitPlace, a_nodeOp, a_nodeA, a_nodeB, a_nodeParts, a_nodeSize, a_slotSize, a_slotParams, a_openLists, a_typeParent, a_elements, a_locals, a_specialValue, a_specialHas, a_printed, a_frames) v := h
theorem x_skip {f_openCount f_typeCount f_printedCount f_depthLimit f_fuelLimit f_lastStatus f_lastValue f_lastError f_lastDatum f_lastPlace f_beatsUsed f_frameCount f_mode f_currentNode f_currentEnv f_result f_calls f_inForce f_exitTarget f_exitValue f_exitType f_exitPlace : Int32} {a_nodeOp a_nodeA a_nodeB a_nodeParts a_nodeSize a_slotSize a_slotParams a_openLists a_typeParent a_elements a_locals a_specialValue a_specialHas a_printed a_frames : Nat → Int32} {P : SX → Prop} (b c m z : Nat) (hb : b + 17 ≤ 11900) (hc : c < 392) (h3 : a_frames (b + 3) = nI c) (hz : a_nodeSize c = nI z) (h4 : a_frames (b + 4) = nI (m + 1)) (h : P (f_openCount, f_typeCount, f_printedCount, f_depthLimit, f_fuelLimit, f_lastStatus, f_lastValue, f_lastError, f_lastDatum, f_lastPlace, f_beatsUsed, f_frameCount, f_mode, f_currentNode, f_currentEnv, f_result, f_calls, f_inForce, f_exitTarget, f_exitValue, f_exitType, f_exitPlace, a_nodeOp, a_nodeA, a_nodeB, a_nodeParts, a_nodeSize, a_slotSize, a_slotParams, a_openLists, a_typeParent, a_elements, a_locals, a_specialValue, a_specialHas, a_printed, upd (upd a_frames (b + 3) (nI (c + z))) (b + 4) (nI m))) : wpX_skipPart P (f_openCount, f_typeCount, f_printedCount, f_depthLimit, f_fuelLimit, f_lastStatus, f_lastValue, f_lastError, f_lastDatum, f_lastPlace, f_beatsUsed, f_frameCount, f_mode, f_currentNode, f_currentEnv, f_result, f_calls, f_inForce, f_exitTarget, f_exitValue, f_exitType, f_exitPlace, a_nodeOp, a_nodeA, a_nodeB, a_nodeParts, a_nodeSize, a_slotSize, a_slotParams, a_openLists, a_typeParent, a_elements, a_locals, a_specialValue, a_specialHas, a_printed, a_frames) (nI b) := by
  refine xx_r 3 (by omega) ?_
  rw [h3]
  refine ⟨vp_in_nI hc (by decide), ?_⟩
  rw [nI_clamp (by omega), hz, nI_add]
  refine xx_w 3 (by omega) ⟨xx_i 4 (by omega), ?_⟩
  rw [xx_c 4 4 (by omega), up_n (by decide), h4, nI_pred]
  exact ⟨xx_i 4 (by omega), nm_e h⟩
theorem x_raise {f_openCount f_typeCount f_printedCount f_depthLimit f_fuelLimit f_lastStatus f_lastValue f_lastError f_lastDatum f_lastPlace f_beatsUsed f_frameCount f_mode f_currentNode f_currentEnv f_result f_calls f_inForce f_exitTarget f_exitValue f_exitType f_exitPlace : Int32} {a_nodeOp a_nodeA a_nodeB a_nodeParts a_nodeSize a_slotSize a_slotParams a_openLists a_typeParent a_elements a_locals a_specialValue a_specialHas a_printed a_frames : Nat → Int32} {P : SX → Prop} {t d : Int32} (b : Nat) (hb : b + 17 ≤ 11900) (h : P (f_openCount, f_typeCount, f_printedCount, f_depthLimit, f_fuelLimit, f_lastStatus, f_lastValue, f_lastError, f_lastDatum, f_lastPlace, f_beatsUsed, f_frameCount, 5, f_currentNode, f_currentEnv, f_result, f_calls, f_inForce, f_exitTarget, f_exitValue, f_exitType, f_exitPlace, a_nodeOp, a_nodeA, a_nodeB, a_nodeParts, a_nodeSize, a_slotSize, a_slotParams, a_openLists, a_typeParent, a_elements, a_locals, a_specialValue, a_specialHas, a_printed, upd (upd (upd (upd a_frames (b + 2) 4) (b + 13) t) (b + 14) d) (b + 15) f_inForce)) : wpX_raise P (f_openCount, f_typeCount, f_printedCount, f_depthLimit, f_fuelLimit, f_lastStatus, f_lastValue, f_lastError, f_lastDatum, f_lastPlace, f_beatsUsed, f_frameCount, f_mode, f_currentNode, f_currentEnv, f_result, f_calls, f_inForce, f_exitTarget, f_exitValue, f_exitType, f_exitPlace, a_nodeOp, a_nodeA, a_nodeB, a_nodeParts, a_nodeSize, a_slotSize, a_slotParams, a_openLists, a_typeParent, a_elements, a_locals, a_specialValue, a_specialHas, a_printed, a_frames) (nI b) t d :=
  xx_w 2 (by omega) (xx_w 13 (by omega) (xx_w 14 (by omega) (xx_w 15 (by omega) h)))
theorem x_body {f_openCount f_typeCount f_printedCount f_depthLimit f_fuelLimit f_lastStatus f_lastValue f_lastError f_lastDatum f_lastPlace f_beatsUsed f_frameCount f_mode f_currentNode f_currentEnv f_result f_calls f_inForce f_exitTarget f_exitValue f_exitType f_exitPlace : Int32} {a_nodeOp a_nodeA a_nodeB a_nodeParts a_nodeSize a_slotSize a_slotParams a_openLists a_typeParent a_elements a_locals a_specialValue a_specialHas a_printed a_frames : Nat → Int32} {P : SX → Prop} (b : Nat) (hb : b + 17 ≤ 11900) (h : P (f_openCount, f_typeCount, f_printedCount, f_depthLimit, f_fuelLimit, f_lastStatus, f_lastValue, f_lastError, f_lastDatum, f_lastPlace, f_beatsUsed, f_frameCount, f_mode, f_currentNode, f_currentEnv, 0, f_calls, f_inForce, f_exitTarget, f_exitValue, f_exitType, f_exitPlace, a_nodeOp, a_nodeA, a_nodeB, a_nodeParts, a_nodeSize, a_slotSize, a_slotParams, a_openLists, a_typeParent, a_elements, a_locals, a_specialValue, a_specialHas, a_printed, upd a_frames (b + 2) 1)) : wpX_enterBody P (f_openCount, f_typeCount, f_printedCount, f_depthLimit, f_fuelLimit, f_lastStatus, f_lastValue, f_lastError, f_lastDatum, f_lastPlace, f_beatsUsed, f_frameCount, f_mode, f_currentNode, f_currentEnv, f_result, f_calls, f_inForce, f_exitTarget, f_exitValue, f_exitType, f_exitPlace, a_nodeOp, a_nodeA, a_nodeB, a_nodeParts, a_nodeSize, a_slotSize, a_slotParams, a_openLists, a_typeParent, a_elements, a_locals, a_specialValue, a_specialHas, a_printed, a_frames) (nI b) := xx_w 2 (by omega) h
theorem x_beat {f_openCount f_typeCount f_printedCount f_depthLimit f_lastStatus f_lastValue f_lastError f_lastDatum f_lastPlace f_frameCount f_mode f_currentNode f_currentEnv f_result f_calls f_inForce f_exitTarget f_exitValue f_exitType f_exitPlace : Int32} {a_nodeOp a_nodeA a_nodeB a_nodeParts a_nodeSize a_slotSize a_slotParams a_openLists a_typeParent a_elements a_locals a_specialValue a_specialHas a_printed a_frames : Nat → Int32} {P : Int32 → SX → Prop} {be F : Nat} (hbe : be ≤ F) (hF : F ≤ 200) (h1 : be < F → P 1 (f_openCount, f_typeCount, f_printedCount, f_depthLimit, nI F, f_lastStatus, f_lastValue, f_lastError, f_lastDatum, f_lastPlace, nI (be + 1), f_frameCount, f_mode, f_currentNode, f_currentEnv, f_result, f_calls, f_inForce, f_exitTarget, f_exitValue, f_exitType, f_exitPlace, a_nodeOp, a_nodeA, a_nodeB, a_nodeParts, a_nodeSize, a_slotSize, a_slotParams, a_openLists, a_typeParent, a_elements, a_locals, a_specialValue, a_specialHas, a_printed, a_frames)) (h2 : F ≤ be → P 0 (f_openCount, f_typeCount, f_printedCount, f_depthLimit, nI F, f_lastStatus, f_lastValue, f_lastError, f_lastDatum, f_lastPlace, nI be, f_frameCount, 7, f_currentNode, f_currentEnv, f_result, f_calls, f_inForce, f_exitTarget, f_exitValue, f_exitType, f_exitPlace, a_nodeOp, a_nodeA, a_nodeB, a_nodeParts, a_nodeSize, a_slotSize, a_slotParams, a_openLists, a_typeParent, a_elements, a_locals, a_specialValue, a_specialHas, a_printed, a_frames)) : wpX_spendBeat P (f_openCount, f_typeCount, f_printedCount, f_depthLimit, nI F, f_lastStatus, f_lastValue, f_lastError, f_lastDatum, f_lastPlace, nI be, f_frameCount, f_mode, f_currentNode, f_currentEnv, f_result, f_calls, f_inForce, f_exitTarget, f_exitValue, f_exitType, f_exitPlace, a_nodeOp, a_nodeA, a_nodeB, a_nodeParts, a_nodeSize, a_slotSize, a_slotParams, a_openLists, a_typeParent, a_elements, a_locals, a_specialValue, a_specialHas, a_printed, a_frames) := by
  refine fb_if (nI_ltI (by omega) (by omega)) (fun e => nm_r (nI_1 be) (h1 e)) (fun e => h2 (by omega))
theorem x_round {f_openCount f_typeCount f_printedCount f_depthLimit f_lastStatus f_lastValue f_lastError f_lastDatum f_lastPlace f_frameCount f_mode f_currentNode f_currentEnv f_result f_calls f_inForce f_exitTarget f_exitValue f_exitType f_exitPlace : Int32} {a_nodeOp a_nodeA a_nodeB a_nodeParts a_nodeSize a_slotSize a_slotParams a_openLists a_typeParent a_elements a_locals a_specialValue a_specialHas a_printed a_frames : Nat → Int32} {P : SX → Prop} {be F : Nat} (b n m : Nat) (hb : b + 17 ≤ 11900) (hn : n < 392) (hbe : be ≤ F) (hF : F ≤ 200) (h0 : a_frames (b + 0) = nI n) (hm : a_nodeParts n = nI m) (h1 : be < F → P (f_openCount, f_typeCount, f_printedCount, f_depthLimit, nI F, f_lastStatus, f_lastValue, f_lastError, f_lastDatum, f_lastPlace, nI (be + 1), f_frameCount, 1, f_currentNode, f_currentEnv, f_result, f_calls, f_inForce, f_exitTarget, f_exitValue, f_exitType, f_exitPlace, a_nodeOp, a_nodeA, a_nodeB, a_nodeParts, a_nodeSize, a_slotSize, a_slotParams, a_openLists, a_typeParent, a_elements, a_locals, a_specialValue, a_specialHas, a_printed, upd (upd (upd a_frames (b + 2) 0) (b + 3) (nI (n + 1))) (b + 4) (nI m))) (h2 : F ≤ be → P (f_openCount, f_typeCount, f_printedCount, f_depthLimit, nI F, f_lastStatus, f_lastValue, f_lastError, f_lastDatum, f_lastPlace, nI be, f_frameCount, 7, f_currentNode, f_currentEnv, f_result, f_calls, f_inForce, f_exitTarget, f_exitValue, f_exitType, f_exitPlace, a_nodeOp, a_nodeA, a_nodeB, a_nodeParts, a_nodeSize, a_slotSize, a_slotParams, a_openLists, a_typeParent, a_elements, a_locals, a_specialValue, a_specialHas, a_printed, a_frames)) : wpX_beginRound P (f_openCount, f_typeCount, f_printedCount, f_depthLimit, nI F, f_lastStatus, f_lastValue, f_lastError, f_lastDatum, f_lastPlace, nI be, f_frameCount, f_mode, f_currentNode, f_currentEnv, f_result, f_calls, f_inForce, f_exitTarget, f_exitValue, f_exitType, f_exitPlace, a_nodeOp, a_nodeA, a_nodeB, a_nodeParts, a_nodeSize, a_slotSize, a_slotParams, a_openLists, a_typeParent, a_elements, a_locals, a_specialValue, a_specialHas, a_printed, a_frames) (nI b) := by
  unfold wpX_beginRound
  refine x_beat hbe hF (fun e => ?_) (fun e => br_t rfl (h2 e))
  refine br_f (by decide) ?_
  refine xx_r 0 (by omega) ?_
  rw [h0]
  refine xx_w 2 (by omega) ?_
  rw [nI_1]
  refine xx_w 3 (by omega) ⟨vp_in_nI hn (by decide), ?_⟩
  rw [nI_clamp (by omega), hm]
  exact xx_w 4 (by omega) (h1 e)
theorem xF_new {g : mG} {fr : Nat → Int32} {gl : Nat → Option Int32} {b n e ph : Nat} {rm : List Nat} {l : List Fr} (hp : ph < 3) (e0 : fr (b + 0) = nI n) (e1 : fr (b + 1) = nI e) (e2 : fr (b + 2) = nI ph) (e3 : ∀ c cs, rm = c :: cs → fr (b + 3) = nI c) (e4 : fr (b + 4) = nI rm.length) (e8 : fr (b + 8) = x_ix (m_ch g l)) (e9 : fr (b + 9) = nI (m_fc l)) (e10 : fr (b + 10) = 0) : xF g fr gl b ((n, e, ph, rm), (0, 0, 0, 0), (0, 0, 0, 0), 0, [], 0, none, 0) l := by
  refine ⟨e0, e1, ?_, e3, e4, fun _ z => absurd z (by decide), fun _ z => absurd z (by decide), fun _ z => absurd z (by decide), e8, e9, e10, fun z => absurd rfl z, fun z => ?_, fun z => ?_⟩
  · rw [if_neg (by omega)]; exact e2
  · omega
  · omega
theorem fo_con_2 {Z : Nat → Nat} {e p c c' : Nat} {cs : List Nat} (h : fo_con Z e p (c :: c' :: cs)) : c = p ∧ c' = c + Z c := by
  obtain ⟨h1, _, h2, _⟩ := h
  exact ⟨h1, by rw [h2, h1]⟩
section
variable {g : mG} {V : Nat → Prop} {Z : Nat → Nat} {pa : Nat → Option Nat} {T : Nat} {f_openCount f_typeCount : Int32} {a_nodeOp a_nodeA a_nodeB a_nodeParts a_nodeSize a_slotSize a_slotParams a_openLists a_typeParent : Nat → Int32} {s : St} {n : Nat} {ca inf mo cn ce re et ex ey ep : Int32} {sv sh fr : Nat → Int32} {l r : List Fr} {f : Fr} {P : SX → Prop}
def x_pf (fr : Nat → Int32) (b : Nat) (n e m : Nat) (inf : Int32) (c : Nat) : Nat → Int32 := upd (upd (upd (upd (upd (upd (upd (upd fr (b + 0) (nI n)) (b + 1) (nI e)) (b + 2) 0) (b + 3) (nI (n + 1))) (b + 4) (nI m)) (b + 8) inf) (b + 9) (nI c)) (b + 10) 0
theorem x_push {f_openCount f_typeCount f_printedCount f_depthLimit f_fuelLimit f_lastStatus f_lastValue f_lastError f_lastDatum f_lastPlace f_beatsUsed f_mode f_currentNode f_currentEnv f_result f_inForce f_exitTarget f_exitValue f_exitType f_exitPlace : Int32} {a_nodeOp a_nodeA a_nodeB a_nodeParts a_nodeSize a_slotSize a_slotParams a_openLists a_typeParent a_elements a_locals a_specialValue a_specialHas a_printed a_frames : Nat → Int32} {P : Int32 → SX → Prop} (L n e m c : Nat) (hn : n < 392) (hL : L < 700) (hm : a_nodeParts n = nI m) (h : P 1 (f_openCount, f_typeCount, f_printedCount, f_depthLimit, f_fuelLimit, f_lastStatus, f_lastValue, f_lastError, f_lastDatum, f_lastPlace, f_beatsUsed, nI (L + 1), f_mode, f_currentNode, f_currentEnv, f_result, nI c, f_inForce, f_exitTarget, f_exitValue, f_exitType, f_exitPlace, a_nodeOp, a_nodeA, a_nodeB, a_nodeParts, a_nodeSize, a_slotSize, a_slotParams, a_openLists, a_typeParent, a_elements, a_locals, a_specialValue, a_specialHas, a_printed, x_pf a_frames (17 * L) n e m f_inForce c)) : wpX_pushFrame P (f_openCount, f_typeCount, f_printedCount, f_depthLimit, f_fuelLimit, f_lastStatus, f_lastValue, f_lastError, f_lastDatum, f_lastPlace, f_beatsUsed, nI L, f_mode, f_currentNode, f_currentEnv, f_result, nI c, f_inForce, f_exitTarget, f_exitValue, f_exitType, f_exitPlace, a_nodeOp, a_nodeA, a_nodeB, a_nodeParts, a_nodeSize, a_slotSize, a_slotParams, a_openLists, a_typeParent, a_elements, a_locals, a_specialValue, a_specialHas, a_printed, a_frames) (nI n) (nI e) := by
  refine br_t (nI_lt (b := 700) hL (by decide)) ?_
  refine nm_r (nI_1 L) ?_
  refine x_top L ?_
  refine xx_w 0 (by omega) ?_
  refine xx_w 1 (by omega) ?_
  refine xx_w 2 (by omega) ?_
  rw [nI_1]
  refine xx_w 3 (by omega) ⟨vp_in_nI hn (by decide), ?_⟩
  rw [nI_clamp (by omega), hm]
  exact xx_w 4 (by omega) (xx_w 8 (by omega) (xx_w 9 (by omega) (xx_w 10 (by omega) h)))
theorem x_pf_c {fr : Nat → Int32} {b n e m c : Nat} {inf : Int32} : x_pf fr b n e m inf c (b + 0) = nI n ∧ x_pf fr b n e m inf c (b + 1) = nI e ∧ x_pf fr b n e m inf c (b + 2) = 0 ∧ x_pf fr b n e m inf c (b + 3) = nI (n + 1) ∧ x_pf fr b n e m inf c (b + 4) = nI m ∧ x_pf fr b n e m inf c (b + 8) = inf ∧ x_pf fr b n e m inf c (b + 9) = nI c ∧ x_pf fr b n e m inf c (b + 10) = 0 := by
  unfold x_pf
  refine ⟨?_, ?_, ?_, ?_, ?_, ?_, ?_, ?_⟩ <;> simp (disch := decide) only [up_n, up_s]
theorem x_pf_b {fr : Nat → Int32} {b n e m c j : Nat} {inf : Int32} (h : j < b) : x_pf fr b n e m inf c j = fr j := by
  unfold x_pf
  rw [pk_un (by omega), pk_un (by omega), pk_un (by omega), pk_un (by omega), pk_un (by omega), pk_un (by omega), pk_un (by omega), pk_un (by omega)]
theorem x_K1 (G : g_w g V Z pa T) {n : Nat} (hV : V n) : ∀ c cs, gK g n = c :: cs → c = n + 1 ∧ (∀ c' cs', cs = c' :: cs' → c' = c + Z c) := by
  intro c cs e
  obtain ⟨_, _, _, _, _, n6, _⟩ := G.1 n hV
  rw [e] at n6
  refine ⟨n6.1, fun c' cs' e' => ?_⟩
  rw [e'] at n6
  exact (fo_con_2 n6).2
theorem x_ev (G : g_w g V Z pa T) (X : xG g V Z f_openCount f_typeCount a_nodeOp a_nodeA a_nodeB a_nodeParts a_nodeSize a_slotSize a_slotParams a_openLists a_typeParent) {n e : Nat} (hV : V n) (he : e ≤ 5) (hl : l.length < 700) (hs : sBe s ≤ gF g) (h1 : xSp sv sh (sGl s) l) (h2 : xL g fr (sGl s) l) (h : ∀ u', px_R g f_openCount f_typeCount a_nodeOp a_nodeA a_nodeB a_nodeParts a_nodeSize a_slotSize a_slotParams a_openLists a_typeParent (m_ev g n e l s) u' → P u') : wpX_step P (xU g f_openCount f_typeCount a_nodeOp a_nodeA a_nodeB a_nodeParts a_nodeSize a_slotSize a_slotParams a_openLists a_typeParent x_z0 s l.length (nI (m_fc l)) (x_ix (m_ch g l)) 0 (nI n) (nI e) re et ex ey ep sv sh fr) := by
  obtain ⟨n1, n2, n3, n4, n5, n6, n7, n8, n9, n10, n11⟩ := G.1 n hV
  obtain ⟨y1, y2, y3, y4, y5, y6, y7, y8⟩ := X.1 n hV
  have hF : gF g ≤ 200 := G.2.2.2.2.2.2.1
  have K1 := x_K1 G hV
  have hlb : l.length < 2 ^ 31 := by omega
  refine br_f (by decide) (br_f (by decide) (br_t rfl ?_))
  refine xx_n n4 ?_
  rw [y1]
  unfold m_ev at h
  by_cases o27 : gO g n = 27
  · rw [if_pos o27] at h
    refine br_t (by rw [o27]; rfl) ⟨vp_in_nI n4 (by decide), ?_⟩
    rw [nI_clamp (by omega), y4 o27]
    exact x_give _ h1 h2 hlb h
  · rw [if_neg o27] at h
    refine br_f (xx_ne (b := 27) o27 (by omega) (by decide)) ?_
    by_cases o28 : gO g n = 28
    · rw [if_pos o28] at h
      have hA := n8 o28
      have hK := y8 (by omega)
      refine br_t (by rw [o28]; rfl) (xx_n n4 ?_)
      rw [y5 (Or.inl o28)]
      by_cases a8 : gA g n < 8
      · rw [if_pos a8] at h
        refine br_f (nI_ge (b := 8) a8 (by decide)) ⟨?_, ?_⟩
        · rw [show (8 : Int32) = nI 8 from rfl, pk_mul, nI_add]
          exact vp_in_nI (by omega) (by decide)
        · rw [show (8 : Int32) = nI 8 from rfl, pk_mul, nI_add, nI_clamp (by omega), Nat.mul_comm e 8]
          exact x_give _ h1 h2 hlb h
      · rw [if_neg a8] at h
        obtain ⟨j, hj⟩ : ∃ j, gA g n = 8 + j := ⟨gA g n - 8, by omega⟩
        have hj4 : j < 4 := by omega
        have hsp := h1 j hj4
        rw [hj] at h ⊢
        refine br_t (nI_le (a := 8) (by omega) (by omega)) ?_
        rw [x_sub8 (by omega), show 8 + j - 8 = j from by omega]
        refine ⟨vp_in_nI hj4 (by decide), ?_⟩
        rw [nI_clamp (by omega)]
        cases hm : m_cur (sGl s) (8 + j) l with
        | some x =>
          rw [hm] at hsp h
          have hsp : sh j = 1 ∧ sv j = x := hsp
          refine br_f (by rw [hsp.1]; decide) ⟨vp_in_nI hj4 (by decide), ?_⟩
          rw [hsp.2]
          exact x_give _ h1 h2 hlb h
        | none =>
          rw [hm] at hsp h
          have hsp : sh j = 0 := hsp
          refine br_t hsp ?_
          refine x_push l.length n e 0 (m_fc l) n4 hl (by rw [y2, hK]; rfl) ?_
          refine br_f (by decide) ?_
          refine x_top l.length ?_
          refine x_raise (17 * l.length) (by omega) ?_
          obtain ⟨p0, p1, p2, p3, p4, p8, p9, p10⟩ := x_pf_c (fr := fr) (b := 17 * l.length) (n := n) (e := e) (m := 0) (inf := x_ix (m_ch g l)) (c := m_fc l)
          refine h _ ⟨_, _, _, _, _, _, _, _, _, _, ?_, ⟨⟨?_, ?_, ?_, ?_, ?_, ?_, ?_, ?_, ?_, ?_, ?_, ?_, ?_, ?_⟩, xL_keep h2 ?_⟩, fun z => (by cases z), fun z => (by cases z), fun z => (by cases z), rfl⟩
          · exact xSp_c rfl h1
          · simp (disch := decide) only [up_n, up_s]; exact p0
          · simp (disch := decide) only [up_n, up_s]; exact p1
          · simp (disch := decide) only [up_n, up_s]; rfl
          · intro c cs z; cases z
          · simp (disch := decide) only [up_n, up_s]; exact p4
          · intro _ z; exact absurd z (by decide)
          · intro z; cases z
          · intro z; cases z
          · simp (disch := decide) only [up_n, up_s]; exact p8
          · simp (disch := decide) only [up_n, up_s]; exact p9
          · simp (disch := decide) only [up_n, up_s]; exact p10
          · intro z; exact absurd rfl z
          · intro _
            refine ⟨?_, ?_, ?_⟩ <;> simp (disch := decide) only [up_n, up_s]
            rfl
          · intro z; cases z
          · intro j hj
            rw [pk_un (by omega), pk_un (by omega), pk_un (by omega), pk_un (by omega), x_pf_b hj]
    · rw [if_neg o28] at h
      have hO : gO g n ≤ 26 := by omega
      have hle := n7 hO
      refine br_f (xx_ne (b := 28) o28 (by omega) (by decide)) ?_
      refine x_push l.length n e (gK g n).length (m_fc l) n4 hl y2 ?_
      refine br_f (by decide) ?_
      unfold wpX_beginList
      dsimp only
      refine x_top l.length ?_
      refine xx_n n4 ?_
      obtain ⟨p0, p1, p2, p3, p4, p8, p9, p10⟩ := x_pf_c (fr := fr) (b := 17 * l.length) (n := n) (e := e) (m := (gK g n).length) (inf := x_ix (m_ch g l)) (c := m_fc l)
      have pb : ∀ j, j < 17 * l.length → x_pf fr (17 * l.length) n e (gK g n).length (x_ix (m_ch g l)) (m_fc l) j = fr j := fun j hj => x_pf_b hj
      rw [y1]
      generalize x_pf fr (17 * l.length) n e (gK g n).length (x_ix (m_ch g l)) (m_fc l) = fn at p0 p1 p2 p3 p4 p8 p9 p10 pb ⊢
      have hbb : 17 * l.length + 17 ≤ 11900 := by omega
      have hKs : ∀ c cs, gK g n = c :: cs → c = n + 1 := fun c cs e => (K1 c cs e).1
      
      have plain : ∀ {re'}, gO g n ≠ 10 → gO g n ≠ 7 → gO g n ≠ 11 → ¬ (16 ≤ gO g n ∧ gO g n ≤ 18) → P (xU g f_openCount f_typeCount a_nodeOp a_nodeA a_nodeB a_nodeParts a_nodeSize a_slotSize a_slotParams a_openLists a_typeParent x_z0 s (l.length + 1) (nI (m_fc l)) (x_ix (m_ch g l)) 1 (nI n) (nI e) re' et ex ey ep sv sh fn) := by
        intro re' o10 o7 o11 o16
        rw [if_neg o10] at h
        have em : m_new g n e = ((n, e, 0, gK g n), (0, 0, 0, 0), (0, 0, 0, 0), 0, [], 0, none, 0) := by
          unfold m_new
          rw [if_neg (by omega), if_neg o16]
        rw [em] at h
        exact h _ ⟨nI n, nI e, re', et, ex, ey, ep, sv, sh, fn, xSp_c rfl h1, ⟨xF_new (by decide) p0 p1 p2 (fun c cs z => by rw [p3, hKs c cs z]) p4 p8 p9 p10, xL_keep h2 pb⟩, fun _ f r z z1 => (by injection z with z2 z3; rw [← z2] at z1; cases z1), fun z => (by cases z), fun z => (by cases z), rfl⟩
      have body : gO g n = 7 ∨ gO g n = 11 → P (xU g f_openCount f_typeCount a_nodeOp a_nodeA a_nodeB a_nodeParts a_nodeSize a_slotSize a_slotParams a_openLists a_typeParent x_z0 s (l.length + 1) (nI (m_fc l)) (x_ix (m_ch g l)) 1 (nI n) (nI e) 0 et ex ey ep sv sh (upd fn (17 * l.length + 2) 1)) := by
        intro o
        rw [if_neg (by omega)] at h
        have em : m_new g n e = ((n, e, 1, gK g n), (0, 0, 0, 0), (0, 0, 0, 0), 0, [], 0, none, 0) := by
          unfold m_new
          rw [if_pos (by omega), if_neg (by omega)]
        have ec : m_ch g (m_new g n e :: l) = m_ch g l := by
          rw [em]
          exact (if_neg (by show ¬ (1 : Nat) = 7; decide)).trans (if_neg (by show ¬ ((1 : Nat) = 1 ∧ (gO g n = 16 ∨ gO g n = 17)); omega))
        refine h _ ⟨nI n, nI e, 0, et, ex, ey, ep, sv, sh, upd fn (17 * l.length + 2) 1, ?_, ⟨?_, xL_keep h2 ?_⟩, fun _ f r z z1 => ?_, fun z => (by cases z), fun z => (by cases z), ?_⟩
        · exact xSp_c rfl h1
        · rw [em]
          refine xF_new (by decide) ?_ ?_ ?_ (fun c cs z => ?_) ?_ ?_ ?_ ?_ <;> simp (disch := decide) only [up_n, up_s]
          · exact p0
          · exact p1
          · rfl
          · rw [p3, hKs c cs z]
          · exact p4
          · exact p8
          · exact p9
          · exact p10
        · intro j hj
          rw [pk_un (by omega)]; exact pb j hj
        · injection z with z2 z3
          rw [← z2, em]; rfl
        · show _ = xU g f_openCount f_typeCount a_nodeOp a_nodeA a_nodeB a_nodeParts a_nodeSize a_slotSize a_slotParams a_openLists a_typeParent _ s (l.length + 1) (nI (m_fc (m_new g n e :: l))) (x_ix (m_ch g (m_new g n e :: l))) _ _ _ _ _ _ _ _ _ _ _
          rw [ec, em]; rfl
      have hsk : 16 ≤ gO g n → gO g n ≤ 18 → ∃ c cs, gK g n = c :: cs ∧ c = n + 1 ∧ c < 392 ∧ a_nodeSize c = nI (Z c) ∧ ∀ c' cs', cs = c' :: cs' → c' = c + Z c := by
        intro o1 o2
        have hl1 : 1 ≤ (gK g n).length := by
          have : fo_least (gO g n) = 1 := by
            unfold fo_least
            rw [if_neg (by omega), if_neg (by omega), if_neg (by omega)]
          omega
        cases hK : gK g n with
        | nil => rw [hK] at hl1; exact absurd hl1 (by decide)
        | cons c cs =>
          have hc := (n5 c (by rw [hK]; exact List.mem_cons_self ..)).1
          exact ⟨c, cs, rfl, (K1 c cs hK).1, (G.1 c hc).2.2.2.1, (X.1 c hc).2.2.1, (K1 c cs hK).2⟩
      have clau : ∀ {inf' : Int32}, (o1 : 16 ≤ gO g n) → (o2 : gO g n ≤ 18) → inf' = x_ix (m_ch g (m_new g n e :: l)) → ∀ c cs, gK g n = c :: cs → (∀ c' cs', cs = c' :: cs' → c' = c + Z c) → P (xU g f_openCount f_typeCount a_nodeOp a_nodeA a_nodeB a_nodeParts a_nodeSize a_slotSize a_slotParams a_openLists a_typeParent x_z0 s (l.length + 1) (nI (m_fc l)) inf' 1 (nI n) (nI e) 0 et ex ey ep sv sh (upd (upd (upd fn (17 * l.length + 3) (nI (c + Z c))) (17 * l.length + 4) (nI cs.length)) (17 * l.length + 2) 1)) := by
        intro inf' o1 o2 hinf c cs hK hc'
        rw [if_neg (by omega)] at h
        have em : m_new g n e = ((n, e, 1, cs), (0, 0, 0, 0), (0, 0, 0, 0), 0, [], 0, none, 0) := by
          unfold m_new
          rw [if_pos (by omega), if_pos ⟨o1, o2⟩, hK]
          rfl
        refine h _ ⟨nI n, nI e, 0, et, ex, ey, ep, sv, sh, upd (upd (upd fn (17 * l.length + 3) (nI (c + Z c))) (17 * l.length + 4) (nI cs.length)) (17 * l.length + 2) 1, ?_, ⟨?_, xL_keep h2 ?_⟩, fun _ f r z z1 => ?_, fun z => (by cases z), fun z => (by cases z), ?_⟩
        · exact xSp_c rfl h1
        · rw [em]
          refine xF_new (by decide) ?_ ?_ ?_ (fun c' cs' z => ?_) ?_ ?_ ?_ ?_ <;> simp (disch := decide) only [up_n, up_s]
          · exact p0
          · exact p1
          · rfl
          · rw [hc' c' cs' z]
          · exact p8
          · exact p9
          · exact p10
        · intro j hj
          rw [pk_un (by omega), pk_un (by omega), pk_un (by omega)]; exact pb j hj
        · injection z with z2 z3
          rw [← z2, em]; rfl
        · show _ = xU g f_openCount f_typeCount a_nodeOp a_nodeA a_nodeB a_nodeParts a_nodeSize a_slotSize a_slotParams a_openLists a_typeParent _ s (l.length + 1) (nI (m_fc (m_new g n e :: l))) (x_ix (m_ch g (m_new g n e :: l))) _ _ _ _ _ _ _ _ _ _ _
          rw [← hinf, em]; rfl
      have clau1 : gO g n = 16 ∨ gO g n = 17 → x_ix (m_ch g (m_new g n e :: l)) = nI l.length := by
        intro o
        have em : fr_ph (m_new g n e) = 1 := if_pos (by omega)
        have : m_ch g (m_new g n e :: l) = (l.length, n, e) :: m_ch g l := (if_neg (by rw [em]; decide)).trans (if_pos ⟨em, o⟩)
        rw [this]; rfl
      have clau2 : gO g n = 18 → x_ix (m_ch g (m_new g n e :: l)) = x_ix (m_ch g l) := by
        intro o
        have em : fr_ph (m_new g n e) = 1 := if_pos (by omega)
        have : m_ch g (m_new g n e :: l) = m_ch g l := (if_neg (by rw [em]; decide)).trans (if_neg (by show ¬ (_ ∧ (gO g n = 16 ∨ gO g n = 17)); omega))
        rw [this]
      refine fb_if (nI_ltI (b := 7) (by omega) (by decide)) (fun o => plain (by omega) (by omega) (by omega) (by omega)) (fun o => ?_)
      refine fb_if (nI_ltI (a := 18) (by decide) (by omega)) (fun o => plain (by omega) (by omega) (by omega) (by omega)) (fun o => ?_)
      refine fb_if (nI_eq (b := 7) (by omega) (by decide)) (fun o => x_body _ hbb (body (Or.inl o))) (fun o => ?_)
      refine fb_if (nI_eq (b := 8) (by omega) (by decide)) (fun o => plain (by omega) (by omega) (by omega) (by omega)) (fun o => ?_)
      refine fb_if (nI_eq (b := 9) (by omega) (by decide)) (fun o => plain (by omega) (by omega) (by omega) (by omega)) (fun o => ?_)
      refine fb_if (nI_eq (b := 10) (by omega) (by decide)) (fun o => ?_) (fun o => ?_)
      · rw [if_pos o] at h
        have em : m_new g n e = ((n, e, 0, gK g n), (0, 0, 0, 0), (0, 0, 0, 0), 0, [], 0, none, 0) := by
          unfold m_new
          rw [if_neg (by omega), if_neg (by omega)]
        rw [em] at h
        refine x_round (17 * l.length) n (gK g n).length hbb n4 hs hF p0 y2 (fun q => ?_) (fun q => ?_)
        · rw [if_pos q] at h
          refine h _ ⟨nI n, nI e, re, et, ex, ey, ep, sv, sh, upd (upd (upd fn (17 * l.length + 2) 0) (17 * l.length + 3) (nI (n + 1))) (17 * l.length + 4) (nI (gK g n).length), xSp_c rfl h1, ⟨?_, xL_keep h2 ?_⟩, fun _ f r z z1 => (by injection z with z2 z3; rw [← z2] at z1; cases z1), fun z => (by cases z), fun z => (by cases z), rfl⟩
          · refine xF_new (by decide) ?_ ?_ ?_ (fun c cs z => ?_) ?_ ?_ ?_ ?_ <;> simp (disch := decide) only [up_n, up_s]
            · exact p0
            · exact p1
            · rfl
            · rw [hKs c cs z]
            · exact p8
            · exact p9
            · exact p10
          · intro j hj
            rw [pk_un (by omega), pk_un (by omega), pk_un (by omega)]; exact pb j hj
        · rw [if_neg (by omega)] at h
          exact h _ ⟨nI n, nI e, _, et, ex, ey, ep, sv, sh, fn, xSp_c rfl h1, ⟨xF_new (by decide) p0 p1 p2 (fun c cs z => by rw [p3, hKs c cs z]) p4 p8 p9 p10, xL_keep h2 pb⟩, fun z => (by cases z), fun z => (by cases z), fun z => (by cases z), rfl⟩
      refine fb_if (nI_eq (b := 11) (by omega) (by decide)) (fun o => x_body _ hbb (body (Or.inr o))) (fun o => ?_)
      refine fb_if (nI_eq (b := 12) (by omega) (by decide)) (fun o => plain (by omega) (by omega) (by omega) (by omega)) (fun o => ?_)
      refine fb_if (nI_eq (b := 13) (by omega) (by decide)) (fun o => plain (by omega) (by omega) (by omega) (by omega)) (fun o => ?_)
      refine fb_if (nI_eq (b := 14) (by omega) (by decide)) (fun o => plain (by omega) (by omega) (by omega) (by omega)) (fun o => ?_)
      refine fb_if (nI_eq (b := 15) (by omega) (by decide)) (fun o => plain (by omega) (by omega) (by omega) (by omega)) (fun o => ?_)
      obtain ⟨c, cs, hK, hcn, hc3, hcz, hc'⟩ := hsk (by omega) (by omega)
      have h3 : fn (17 * l.length + 3) = nI c := by rw [p3, hcn]
      have h4 : fn (17 * l.length + 4) = nI (cs.length + 1) := by rw [p4, hK]; rfl
      refine fb_if (nI_eq (b := 16) (by omega) (by decide)) (fun o => ?_) (fun o => ?_)
      · refine x_skip (17 * l.length) c cs.length (Z c) hbb hc3 h3 hcz h4 (x_body _ hbb (nm_r (nI_pred _) (clau (by omega) (by omega) (clau1 (Or.inl o)).symm c cs hK hc')))
      refine fb_if (nI_eq (b := 17) (by omega) (by decide)) (fun o => ?_) (fun o => ?_)
      · refine x_skip (17 * l.length) c cs.length (Z c) hbb hc3 h3 hcz h4 (x_body _ hbb (nm_r (nI_pred _) (clau (by omega) (by omega) (clau1 (Or.inr o)).symm c cs hK hc')))
      refine fb_if (nI_eq (b := 18) (by omega) (by decide)) (fun o => ?_) (fun o => trivial)
      exact x_skip (17 * l.length) c cs.length (Z c) hbb hc3 h3 hcz h4 (x_body _ hbb (clau (by omega) (by omega) (clau2 o).symm c cs hK hc'))
end
end
section
/-! the class's side: finishing, going on with a part -/
section
variable {g : mG} {V : Nat → Prop} {Z : Nat → Nat} {pa : Nat → Option Nat} {T : Nat} {f_openCount f_typeCount : Int32} {a_nodeOp a_nodeA a_nodeB a_nodeParts a_nodeSize a_slotSize a_slotParams a_openLists a_typeParent : Nat → Int32} {s : St} {n : Nat} {ca inf mo cn ce re et ex ey ep v : Int32} {sv sh fr : Nat → Int32} {l r : List Fr} {f : Fr} {P : SX → Prop} {post : Int32 → SX → Prop} {N i p q : Nat}
theorem x_fin (h1 : xSp sv sh (sGl s) (f :: r)) (h2 : xL g fr (sGl s) (f :: r)) (hb : fr_bv f = 0 ∨ (8 ≤ fr_bv f ∧ fr_bv f < 12)) (hl : r.length < 700) (h : ∀ u', px_R g f_openCount f_typeCount a_nodeOp a_nodeA a_nodeB a_nodeParts a_nodeSize a_slotSize a_slotParams a_openLists a_typeParent (m_dlv r v s) u' → P u') : wpX_step P (xU g f_openCount f_typeCount a_nodeOp a_nodeA a_nodeB a_nodeParts a_nodeSize a_slotSize a_slotParams a_openLists a_typeParent x_z0 s (r.length + 1) ca inf 3 cn ce v et ex ey ep sv sh fr) :=
  br_f (by decide) (br_f (by decide) (br_f (by decide) (br_f (by decide) (br_f (by decide) (br_t rfl (x_pop h1 h2 hb hl (fun _ _ hs => x_give v hs h2.2 (by omega) h)))))))
theorem x_finR (h1 : xSp sv sh (sGl s) (f :: r)) (h2 : xL g fr (sGl s) (f :: r)) (hb : fr_bv f = 0 ∨ (8 ≤ fr_bv f ∧ fr_bv f < 12)) (hl : r.length < 700) (hi : i + 8 < 10000000) (hpq : p + 1 + q = 8) (H : ∀ p q, p + q = 8 → ∀ u', px_R g f_openCount f_typeCount a_nodeOp a_nodeA a_nodeB a_nodeParts a_nodeSize a_slotSize a_slotParams a_openLists a_typeParent (m_dlv r v s) u' → xR post (N + p) (i + q) u') : xR post (N + (p + 1)) (i + q) (xU g f_openCount f_typeCount a_nodeOp a_nodeA a_nodeB a_nodeParts a_nodeSize a_slotSize a_slotParams a_openLists a_typeParent x_z0 s (r.length + 1) ca inf 3 cn ce v et ex ey ep sv sh fr) :=
  x_go (by omega) (show ¬ (3 : Int32) = 7 by decide) (x_fin h1 h2 hb hl (fun u' hu => H p (q + 1) (by omega) u' hu))
theorem x_evR (G : g_w g V Z pa T) (X : xG g V Z f_openCount f_typeCount a_nodeOp a_nodeA a_nodeB a_nodeParts a_nodeSize a_slotSize a_slotParams a_openLists a_typeParent) {n e : Nat} (hV : V n) (he : e ≤ 5) (hl : l.length < 700) (hs : sBe s ≤ gF g) (h1 : xSp sv sh (sGl s) l) (h2 : xL g fr (sGl s) l) (hi : i + 8 < 10000000) (hpq : p + 1 + q = 8) (H : ∀ p q, p + q = 8 → ∀ u', px_R g f_openCount f_typeCount a_nodeOp a_nodeA a_nodeB a_nodeParts a_nodeSize a_slotSize a_slotParams a_openLists a_typeParent (m_ev g n e l s) u' → xR post (N + p) (i + q) u') : xR post (N + (p + 1)) (i + q) (xU g f_openCount f_typeCount a_nodeOp a_nodeA a_nodeB a_nodeParts a_nodeSize a_slotSize a_slotParams a_openLists a_typeParent x_z0 s l.length (nI (m_fc l)) (x_ix (m_ch g l)) 0 (nI n) (nI e) re et ex ey ep sv sh fr) :=
  x_go (by omega) (show ¬ (0 : Int32) = 7 by decide) (x_ev G X hV he hl hs h1 h2 (fun u' hu => H p (q + 1) (by omega) u' hu))
theorem x_pc {nd ev ph gt bv ty sr : Nat} {x0 x1 x2 la bx dt pl : Int32} {sc : List (Nat × Nat × Nat)} {tg : Option Nat} {c : Nat} {cs : List Nat} (hcl : cs.length < 1000) (hc : c < 392) (hz : a_nodeSize c = nI (Z c)) (hcc : ∀ c' cs', cs = c' :: cs' → c' = c + Z c) (h2 : xL g fr (sGl s) (((nd, ev, ph, c :: cs), (gt, x0, x1, x2), (la, bv, bx, ty), dt, sc, sr, tg, pl) :: r)) (hl : r.length < 700) (h : ∀ fr', xL g fr' (sGl s) (((nd, ev, ph, cs), (gt, x0, x1, x2), (la, bv, bx, ty), dt, sc, sr, tg, pl) :: r) → P (xU g f_openCount f_typeCount a_nodeOp a_nodeA a_nodeB a_nodeParts a_nodeSize a_slotSize a_slotParams a_openLists a_typeParent x_z0 s (r.length + 1) ca inf 0 (nI c) (nI ev) re et ex ey ep sv sh fr')) : wpX_step P (xU g f_openCount f_typeCount a_nodeOp a_nodeA a_nodeB a_nodeParts a_nodeSize a_slotSize a_slotParams a_openLists a_typeParent x_z0 s (r.length + 1) ca inf 1 cn ce re et ex ey ep sv sh fr) := by
  have h2' := h2
  obtain ⟨⟨c0, c1, c2, c3, c4, c5, c6, c7, c8, c9, c10, c11, c12, c13⟩, hL⟩ := h2'
  have c4 : fr (17 * r.length + 4) = nI (cs.length + 1) := c4
  have hbb : 17 * r.length + 17 ≤ 11900 := by omega
  refine br_f (by decide) (br_f (by decide) (br_f (by decide) (br_t rfl ?_)))
  unfold wpX_proceed
  dsimp only
  refine x_top r.length ?_
  refine ⟨xx_i 4 (by omega), ?_⟩
  rw [xx_c 4 4 (by omega), c4]
  refine br_f (nI_nle (by omega) (by omega)) ?_
  refine xx_r 3 (by omega) ?_
  rw [c3 c cs rfl]
  refine xx_r 1 (by omega) ?_
  rw [c1]
  refine x_skip (17 * r.length) c cs.length (Z c) hbb hc (c3 c cs rfl) hz c4 (h (upd (upd fr (17 * r.length + 3) (nI (c + Z c))) (17 * r.length + 4) (nI cs.length)) ⟨⟨?_, ?_, ?_, ?_, ?_, ?_, ?_, ?_, ?_, ?_, ?_, ?_, ?_, ?_⟩, xL_keep hL ?_⟩)
  · simp (disch := decide) only [up_n, up_s]; exact c0
  · simp (disch := decide) only [up_n, up_s]; exact c1
  · simp (disch := decide) only [up_n, up_s]; exact c2
  · intro c' cs' e'
    simp (disch := decide) only [up_n, up_s]
    rw [hcc c' cs' e']
  · simp (disch := decide) only [up_n, up_s]
  · simp (disch := decide) only [up_n, up_s]; exact c5
  · simp (disch := decide) only [up_n, up_s]; exact c6
  · simp (disch := decide) only [up_n, up_s]; exact c7
  · simp (disch := decide) only [up_n, up_s]; exact c8
  · simp (disch := decide) only [up_n, up_s]; exact c9
  · simp (disch := decide) only [up_n, up_s]; exact c10
  · simp (disch := decide) only [up_n, up_s]; exact c11
  · simp (disch := decide) only [up_n, up_s]; exact c12
  · simp (disch := decide) only [up_n, up_s]; exact c13
  · intro j hj
    rw [pk_un (by omega), pk_un (by omega)]
/-- going on with the next part: two steps -/
theorem x_pcR (G : g_w g V Z pa T) (X : xG g V Z f_openCount f_typeCount a_nodeOp a_nodeA a_nodeB a_nodeParts a_nodeSize a_slotSize a_slotParams a_openLists a_typeParent) {nd ev ph gt bv ty sr : Nat} {x0 x1 x2 la bx dt pl : Int32} {sc : List (Nat × Nat × Nat)} {tg : Option Nat} {c : Nat} {cs : List Nat} (hcl : cs.length < 1000) (hV : V c) (he : ev ≤ 5) (hcc : ∀ c' cs', cs = c' :: cs' → c' = c + Z c) (h1 : xSp sv sh (sGl s) (((nd, ev, ph, c :: cs), (gt, x0, x1, x2), (la, bv, bx, ty), dt, sc, sr, tg, pl) :: r)) (h2 : xL g fr (sGl s) (((nd, ev, ph, c :: cs), (gt, x0, x1, x2), (la, bv, bx, ty), dt, sc, sr, tg, pl) :: r)) (hl : r.length + 1 < 700) (hs : sBe s ≤ gF g) (hi : i + 8 < 10000000) (hpq : p + 2 + q = 8) (hca : ca = nI (m_fc (((nd, ev, ph, cs), (gt, x0, x1, x2), (la, bv, bx, ty), dt, sc, sr, tg, pl) :: r))) (hinf : inf = x_ix (m_ch g (((nd, ev, ph, cs), (gt, x0, x1, x2), (la, bv, bx, ty), dt, sc, sr, tg, pl) :: r))) (H : ∀ p q, p + q = 8 → ∀ u', px_R g f_openCount f_typeCount a_nodeOp a_nodeA a_nodeB a_nodeParts a_nodeSize a_slotSize a_slotParams a_openLists a_typeParent (m_ev g c ev (((nd, ev, ph, cs), (gt, x0, x1, x2), (la, bv, bx, ty), dt, sc, sr, tg, pl) :: r) s) u' → xR post (N + p) (i + q) u') : xR post (N + (p + 2)) (i + q) (xU g f_openCount f_typeCount a_nodeOp a_nodeA a_nodeB a_nodeParts a_nodeSize a_slotSize a_slotParams a_openLists a_typeParent x_z0 s (r.length + 1) ca inf 1 cn ce re et ex ey ep sv sh fr) := by
  refine x_go (by omega) (show ¬ (1 : Int32) = 7 by decide) (x_pc hcl (G.1 c hV).2.2.2.1 (X.1 c hV).2.2.1 hcc h2 (by omega) (fun fr' h2' => ?_))
  subst hca hinf
  exact x_evR (p := p) (q := q + 1) G X hV he hl hs (l := ((nd, ev, ph, cs), (gt, x0, x1, x2), (la, bv, bx, ty), dt, sc, sr, tg, pl) :: r) h1 h2' hi (by omega) H
theorem fo_drop_2 {Z : Nat → Nat} {e p k c c' : Nat} {l cs : List Nat} (h : fo_con Z e p l) (hd : l.drop k = c :: c' :: cs) : c' = c + Z c := by
  obtain ⟨p', h'⟩ := fo_con_drop k h
  rw [hd] at h'
  exact (fo_con_2 h').2
/-- the next part begins where the last ends -/
theorem w_nxt (G : g_w g V Z pa T) {nd ev ph gt bv ty sr : Nat} {x0 x1 x2 la bx dt pl : Int32} {sc : List (Nat × Nat × Nat)} {tg : Option Nat} {w c : Nat} {cs : List Nat} (hV : V nd) (h : w_lk g w ((nd, ev, ph, c :: cs), (gt, x0, x1, x2), (la, bv, bx, ty), dt, sc, sr, tg, pl)) : ∀ c' cs', cs = c' :: cs' → c' = c + Z c := by
  intro c' cs' e
  subst e
  have hc := (G.1 nd hV).2.2.2.2.2.1
  rcases h with h | h | h | h | h | h | h | h | h | h
  · exact fo_drop_2 hc h.2.2.2.2.2.1.symm
  · obtain ⟨h1, h2, h3⟩ := h
    rcases h3 with ⟨_, _, z⟩ | ⟨_, _, j, _, z, _⟩ | ⟨_, _, z⟩
    · cases z
    · cases z
    · cases z
  · exact fo_drop_2 hc h.2.2.2.1.symm
  · exact fo_drop_2 hc h.2.2.1.symm
  · exact fo_drop_2 hc h.2.2.2.1.symm
  · exact absurd h.2.2 (by simp)
  · exact absurd h.2.2.1 (by simp)
  · exact absurd h.2.2.1 (by simp)
  · exact absurd h.2.2 (by simp)
  · exact absurd h.2.2 (by simp)
theorem w_rml {nd ev ph gt bv ty sr : Nat} {rm : List Nat} {x0 x1 x2 la bx dt pl : Int32} {sc : List (Nat × Nat × Nat)} {tg : Option Nat} {w : Nat} (h : w_lk g w ((nd, ev, ph, rm), (gt, x0, x1, x2), (la, bv, bx, ty), dt, sc, sr, tg, pl)) : rm.length ≤ (gK g nd).length + 1 := by
  rcases h with h | h | h | h | h | h | h | h | h | h
  · rw [h.2.2.2.2.2.1, List.length_drop]; omega
  · obtain ⟨h1, h2, h3⟩ := h
    rcases h3 with ⟨_, _, z⟩ | ⟨_, _, j, _, z, _⟩ | ⟨_, _, z⟩
    · rw [z]; exact Nat.zero_le _
    · rw [z]; exact Nat.le_add_left _ _
    · rw [z]; exact Nat.zero_le _
  · rw [h.2.2.2.1, List.length_drop]; omega
  · rw [h.2.2.1, List.length_drop]; omega
  · rw [h.2.2.2.1, List.length_drop]; omega
  · rw [h.2.2]; exact Nat.zero_le _
  · rw [h.2.2.1]; exact Nat.zero_le _
  · rw [h.2.2.1]; exact Nat.zero_le _
  · rw [h.2.2]; exact Nat.zero_le _
  · rw [h.2.2]; exact Nat.zero_le _
theorem w_len (h : w_iq g Z n l) (hZ : 1 ≤ Z n) : l.length + 2 ≤ 700 := by
  have := h.2
  omega
theorem w_bdv {f : Fr} (h : w_bd g f) : fr_bv f = 0 ∨ (8 ≤ fr_bv f ∧ fr_bv f < 12) := by
  rcases h with h | h
  · exact Or.inl h
  · exact Or.inr ⟨h.1, h.2.1⟩
end
end
section
/-! the class's side: special variables, searches in the stack, locals of a call -/
theorem m_cur_set {gl : Nat → Option Int32} {v w : Nat} {x : Int32} : ∀ {r r' : List Fr}, m_set v x r = some r' → (w ≠ v → m_cur gl w r' = m_cur gl w r) ∧ m_cur gl v r' = some x
  | [], r', h => by cases h
  | f :: r, r', h => by
    obtain ⟨⟨nd, ev, ph, rm⟩, ⟨gt, x0, x1, x2⟩, ⟨la, bv, bx, ty⟩, dt, sc, sr, tg, pl⟩ := f
    have h : (if bv = v then some (((nd, ev, ph, rm), (gt, x0, x1, x2), (la, bv, x, ty), dt, sc, sr, tg, pl) :: r) else match m_set v x r with
      | some r' => some (((nd, ev, ph, rm), (gt, x0, x1, x2), (la, bv, bx, ty), dt, sc, sr, tg, pl) :: r')
      | none => none) = some r' := h
    by_cases e : bv = v
    · rw [if_pos e] at h
      cases h
      subst e
      refine ⟨fun hw => ?_, if_pos rfl⟩
      exact (if_neg (by show ¬ bv = w; omega)).trans (if_neg (by show ¬ bv = w; omega)).symm
    · rw [if_neg e] at h
      cases hm : m_set v x r with
      | none => rw [hm] at h; cases h
      | some r1 =>
        rw [hm] at h
        cases h
        obtain ⟨a1, a2⟩ := m_cur_set (gl := gl) (w := w) hm
        refine ⟨fun hw => ?_, ?_⟩
        · show (if bv = w then some bx else m_cur gl w r1) = (if bv = w then some bx else m_cur gl w r)
          rw [a1 hw]
        · exact (if_neg e).trans a2
theorem m_cur_glob {gl gl' : Nat → Option Int32} {v w : Nat} (hg : ∀ w, w ≠ v → gl' w = gl w) (hw : w ≠ v) : ∀ (r : List Fr), m_cur gl' w r = m_cur gl w r
  | [] => hg w hw
  | f :: r => by
    show (if fr_bv f = w then some (fr_bx f) else m_cur gl' w r) = (if fr_bv f = w then some (fr_bx f) else m_cur gl w r)
    rw [m_cur_glob hg hw r]
theorem m_set_none {gl : Nat → Option Int32} {v : Nat} {x : Int32} : ∀ {r : List Fr}, m_set v x r = none → m_cur gl v r = gl v ∧ ∀ q, q ∈ r → fr_bv q ≠ v
  | [], _ => ⟨rfl, fun q h => by cases h⟩
  | f :: r, h => by
    obtain ⟨⟨nd, ev, ph, rm⟩, ⟨gt, x0, x1, x2⟩, ⟨la, bv, bx, ty⟩, dt, sc, sr, tg, pl⟩ := f
    have h : (if bv = v then some (((nd, ev, ph, rm), (gt, x0, x1, x2), (la, bv, x, ty), dt, sc, sr, tg, pl) :: r) else match m_set v x r with
      | some r' => some (((nd, ev, ph, rm), (gt, x0, x1, x2), (la, bv, bx, ty), dt, sc, sr, tg, pl) :: r')
      | none => none) = none := h
    by_cases e : bv = v
    · rw [if_pos e] at h; cases h
    · rw [if_neg e] at h
      cases hm : m_set v x r with
      | some r1 => rw [hm] at h; cases h
      | none =>
        obtain ⟨a1, a2⟩ := m_set_none (gl := gl) hm
        refine ⟨(if_neg e).trans a1, fun q hq => ?_⟩
        rcases List.mem_cons.mp hq with z | z
        · rw [z]; exact e
        · exact a2 q z
theorem xF_list {g : mG} {fr : Nat → Int32} {gl gl' : Nat → Option Int32} {b : Nat} {f : Fr} {r r' : List Fr} (h : xF g fr gl b f r) (h1 : m_ch g r' = m_ch g r) (h2 : m_fc r' = m_fc r) (h3 : fr_bv f ≠ 0 → m_cur gl' (fr_bv f) r' = m_cur gl (fr_bv f) r) : xF g fr gl' b f r' := by
  obtain ⟨⟨nd, ev, ph, rm⟩, ⟨gt, x0, x1, x2⟩, ⟨la, bv, bx, ty⟩, dt, sc, sr, tg, pl⟩ := f
  obtain ⟨c0, c1, c2, c3, c4, c5, c6, c7, c8, c9, c10, c11, c12, c13⟩ := h
  have h3 : bv ≠ 0 → m_cur gl' bv r' = m_cur gl bv r := h3
  exact ⟨c0, c1, c2, c3, c4, c5, c6, c7, by rw [h1]; exact c8, by rw [h2]; exact c9, c10, fun z => by rw [h3 z]; exact c11 z, c12, c13⟩
theorem xL_set {g : mG} {fr : Nat → Int32} {gl : Nat → Option Int32} {v : Nat} {x : Int32} : ∀ {r r' : List Fr}, m_set v x r = some r' → xL g fr gl r → xL g fr gl r'
  | [], r', h, _ => by cases h
  | f :: r, r', h, X => by
    have sh := m_set_sh h
    obtain ⟨⟨nd, ev, ph, rm⟩, ⟨gt, x0, x1, x2⟩, ⟨la, bv, bx, ty⟩, dt, sc, sr, tg, pl⟩ := f
    have h : (if bv = v then some (((nd, ev, ph, rm), (gt, x0, x1, x2), (la, bv, x, ty), dt, sc, sr, tg, pl) :: r) else match m_set v x r with
      | some r' => some (((nd, ev, ph, rm), (gt, x0, x1, x2), (la, bv, bx, ty), dt, sc, sr, tg, pl) :: r')
      | none => none) = some r' := h
    by_cases e : bv = v
    · rw [if_pos e] at h
      cases h
      exact ⟨X.1, X.2⟩
    · rw [if_neg e] at h
      cases hm : m_set v x r with
      | none => rw [hm] at h; cases h
      | some r1 =>
        rw [hm] at h
        cases h
        have sh := m_set_sh hm
        obtain ⟨a1, a2, _, _⟩ := m_sh_fun (g := g) (Z := fun _ => 0) sh
        refine ⟨?_, xL_set hm X.2⟩
        rw [← m_sh_len sh]
        exact xF_list X.1 a1.symm a2.symm (fun _ => (m_cur_set hm).1 e)
theorem xL_glob {g : mG} {fr : Nat → Int32} {gl gl' : Nat → Option Int32} {v : Nat} (hg : ∀ w, w ≠ v → gl' w = gl w) : ∀ {r : List Fr}, (∀ q, q ∈ r → fr_bv q ≠ v) → xL g fr gl r → xL g fr gl' r
  | [], _, _ => trivial
  | f :: r, hq, X => ⟨xF_list X.1 rfl rfl (fun _ => m_cur_glob hg (hq f (List.mem_cons_self ..)) r), xL_glob hg (fun q h => hq q (List.mem_cons_of_mem _ h)) X.2⟩
theorem fo_dec {a : Nat} (h : a < 2 ^ 31) : nI a - 1 < 0 ↔ a = 0 := by
  cases a with
  | zero => exact ⟨fun _ => rfl, fun _ => by decide⟩
  | succ k =>
    rw [nI_pred]
    exact ⟨fun z => absurd z (nI_pos (by omega)), fun z => by omega⟩
theorem fo_m1 (a : Nat) : nI a + (-1) = nI a - 1 := by rw [Int32.sub_eq_add_neg]
theorem x_mul17 (a : Nat) : nI a * 17 = nI (17 * a) := by
  rw [show (17 : Int32) = nI 17 from rfl, pk_mul, Nat.mul_comm]
section
variable {g : mG} {V : Nat → Prop} {Z : Nat → Nat} {pa : Nat → Option Nat} {T : Nat} {f_openCount f_typeCount : Int32} {a_nodeOp a_nodeA a_nodeB a_nodeParts a_nodeSize a_slotSize a_slotParams a_openLists a_typeParent : Nat → Int32} {s : St}
theorem x_ret {f_openCount f_typeCount f_printedCount f_depthLimit f_fuelLimit f_lastStatus f_lastValue f_lastError f_lastDatum f_lastPlace f_beatsUsed f_frameCount f_mode f_currentNode f_currentEnv f_result f_calls f_inForce f_exitTarget f_exitValue f_exitType f_exitPlace : Int32} {a_nodeOp a_nodeA a_nodeB a_nodeParts a_nodeSize a_slotSize a_slotParams a_openLists a_typeParent a_elements a_locals a_specialValue a_specialHas a_printed a_frames : Nat → Int32} {P : SX → Prop} {gl : Nat → Option Int32} {v : Int32} (B e : Nat) (hB : B < 392) (he : e ≤ 5) : ∀ {l : List Fr} {w : Nat}, w_l g V Z pa w l → (∀ n, V n → n < 392) → xL g a_frames gl l → l.length ≤ 700 → P (f_openCount, f_typeCount, f_printedCount, f_depthLimit, f_fuelLimit, f_lastStatus, f_lastValue, f_lastError, f_lastDatum, f_lastPlace, f_beatsUsed, f_frameCount, 6, f_currentNode, f_currentEnv, f_result, f_calls, f_inForce, x_tg (m_find (fun q => decide (fr_nd q = B ∧ fr_ev q = e)) l), v, f_exitType, f_exitPlace, a_nodeOp, a_nodeA, a_nodeB, a_nodeParts, a_nodeSize, a_slotSize, a_slotParams, a_openLists, a_typeParent, a_elements, a_locals, a_specialValue, a_specialHas, a_printed, a_frames) → ∀ n, l.length + 1 < n → wX_returnFrom_21 P (nI B) v (nI e) f_openCount f_typeCount f_printedCount f_depthLimit f_fuelLimit f_lastStatus f_lastValue f_lastError f_lastDatum f_lastPlace f_beatsUsed f_frameCount f_mode f_currentNode f_currentEnv f_result f_calls f_inForce f_exitTarget f_exitValue f_exitType f_exitPlace a_nodeOp a_nodeA a_nodeB a_nodeParts a_nodeSize a_slotSize a_slotParams a_openLists a_typeParent a_elements a_locals a_specialValue a_specialHas a_printed a_frames n (-1) (nI l.length - 1)
  | _, _, _, _, _, _, _, 0, hn => by omega
  | [], _, _, _, _, _, h, n + 1, hn => by
    rw [wX_returnFrom_21]
    exact br_t (by decide) h
  | f :: r, w, W, hV, X, hl, h, n + 1, hn => by
    have hl : r.length + 1 ≤ 700 := hl
    have hn : r.length + 1 + 1 < n + 1 := hn
    obtain ⟨X1, X2⟩ := X
    obtain ⟨⟨nd, ev, ph, rm⟩, ⟨gt, x0, x1, x2⟩, ⟨la, bv, bx, ty⟩, dt, sc, sr, tg, pl⟩ := f
    obtain ⟨c0, c1, _⟩ := X1
    have hnd : nd < 392 := hV _ W.1.1
    have hev : ev ≤ 5 := W.1.2.1
    rw [wX_returnFrom_21]
    show _ ∧ _
    rw [show nI (List.length (((nd, ev, ph, rm), (gt, x0, x1, x2), (la, bv, bx, ty), dt, sc, sr, tg, pl) :: r)) - 1 = nI r.length from nI_pred r.length]
    refine br_f (nI_pos (by omega)) (br_t rfl (nm_r (x_mul17 _) ⟨xx_i 0 (by omega), ?_⟩))
    rw [xx_c 0 0 (by omega), c0]
    have hf : m_find (fun q => decide (fr_nd q = B ∧ fr_ev q = e)) (((nd, ev, ph, rm), (gt, x0, x1, x2), (la, bv, bx, ty), dt, sc, sr, tg, pl) :: r) = if decide (nd = B ∧ ev = e) = true then some r.length else m_find (fun q => decide (fr_nd q = B ∧ fr_ev q = e)) r := rfl
    rw [hf] at h
    refine fb_if (nI_eq (by omega) (by omega)) (fun e1 => ⟨xx_i 1 (by omega), ?_⟩) (fun e1 => ?_)
    · rw [xx_c 1 1 (by omega), c1]
      refine fb_if (nI_eq (by omega) (by omega)) (fun e2 => ?_) (fun e2 => ?_)
      · rw [if_pos (decide_eq_true ⟨e1, e2⟩)] at h
        refine nm_r (fo_m1 _) ?_
        obtain ⟨m, rfl⟩ : ∃ m, n = m + 1 := ⟨n - 1, by omega⟩
        rw [wX_returnFrom_21]
        refine br_c (fun _ => h) (fun _ => br_f ?_ h)
        intro z
        have : (0 : Int32) ≤ -1 := by rw [← z]; exact nI_pos' (by omega)
        exact absurd this (by decide)
      · rw [if_neg (by rw [decide_eq_true_iff]; omega)] at h
        exact nm_r (fo_m1 _) (x_ret B e hB he W.2 hV X2 (by omega) h n (by omega))
    · rw [if_neg (by rw [decide_eq_true_iff]; omega)] at h
      exact nm_r (fo_m1 _) (x_ret B e hB he W.2 hV X2 (by omega) h n (by omega))
theorem x_inb {f_openCount f_typeCount f_printedCount f_depthLimit f_fuelLimit f_lastStatus f_lastValue f_lastError f_lastDatum f_lastPlace f_beatsUsed f_frameCount f_mode f_currentNode f_currentEnv f_result f_calls f_inForce f_exitTarget f_exitValue f_exitType f_exitPlace : Int32} {a_nodeOp a_nodeA a_nodeB a_nodeParts a_nodeSize a_slotSize a_slotParams a_openLists a_typeParent a_elements a_locals a_specialValue a_specialHas a_printed a_frames : Nat → Int32} {P : Int32 → Prop} {gl : Nat → Option Int32} {nd ev ph gt bv ty sr : Nat} {rm : List Nat} {x0 x1 x2 la bx dt pl : Int32} {sc : List (Nat × Nat × Nat)} {tg : Option Nat} {w : Nat} {r : List Fr} (o : Nat) (ho : o < 100) (W : w_f g V Z pa w ((nd, ev, ph, rm), (gt, x0, x1, x2), (la, bv, bx, ty), dt, sc, sr, tg, pl) r) (G : g_w g V Z pa T) (X : xG g V Z f_openCount f_typeCount a_nodeOp a_nodeA a_nodeB a_nodeParts a_nodeSize a_slotSize a_slotParams a_openLists a_typeParent) (hF : xF g a_frames gl (17 * r.length) ((nd, ev, ph, rm), (gt, x0, x1, x2), (la, bv, bx, ty), dt, sc, sr, tg, pl) r) (hl : r.length < 700) (h1 : ph = 1 ∧ gO g nd = o → P 1) (h2 : ¬ (ph = 1 ∧ gO g nd = o) → P 0) : wpX_isInBody P (f_openCount, f_typeCount, f_printedCount, f_depthLimit, f_fuelLimit, f_lastStatus, f_lastValue, f_lastError, f_lastDatum, f_lastPlace, f_beatsUsed, f_frameCount, f_mode, f_currentNode, f_currentEnv, f_result, f_calls, f_inForce, f_exitTarget, f_exitValue, f_exitType, f_exitPlace, a_nodeOp, a_nodeA, a_nodeB, a_nodeParts, a_nodeSize, a_slotSize, a_slotParams, a_openLists, a_typeParent, a_elements, a_locals, a_specialValue, a_specialHas, a_printed, a_frames) (nI (17 * r.length)) (nI o) := by
  obtain ⟨c0, c1, c2, _⟩ := hF
  have hV : V nd := W.1
  have hnd := (G.1 nd hV).2.2.2.1
  have hO := (G.1 nd hV).1
  have hph : ph < 9 := by
    obtain ⟨_, _, h, _⟩ := W
    rcases h with h | h | h | h | h | h | h | h | h | h <;> omega
  refine ⟨xx_i 2 (by omega), ?_⟩
  rw [xx_c 2 2 (by omega), c2]
  have e1 : nI (if ph = 8 then 4 else ph) = 1 ↔ ph = 1 := by
    rw [show (1 : Int32) = nI 1 from rfl, nI_eq (by split <;> omega) (by decide)]
    split <;> omega
  refine fb_if e1 (fun z => ⟨xx_i 0 (by omega), ?_⟩) (fun z => h2 (fun y => z y.1))
  rw [xx_c 0 0 (by omega), c0]
  refine ⟨vp_in_nI hnd (by decide), ?_⟩
  rw [nI_clamp (by omega), (X.1 nd hV).1]
  exact fb_if (nI_eq (by omega) (by omega)) (fun y => h1 ⟨z, y⟩) (fun y => h2 (fun y' => y y'.2))
theorem x_thr {f_openCount f_typeCount f_printedCount f_depthLimit f_fuelLimit f_lastStatus f_lastValue f_lastError f_lastDatum f_lastPlace f_beatsUsed f_frameCount f_mode f_currentNode f_currentEnv f_result f_calls f_inForce f_exitTarget f_exitValue f_exitType f_exitPlace : Int32} {a_nodeOp a_nodeA a_nodeB a_nodeParts a_nodeSize a_slotSize a_slotParams a_openLists a_typeParent a_elements a_locals a_specialValue a_specialHas a_printed a_frames : Nat → Int32} {P : SX → Prop} {gl : Nat → Option Int32} {x1 tag v : Int32} (G : g_w g V Z pa T) (X : xG g V Z f_openCount f_typeCount a_nodeOp a_nodeA a_nodeB a_nodeParts a_nodeSize a_slotSize a_slotParams a_openLists a_typeParent) : ∀ {l : List Fr} {w : Nat}, w_l g V Z pa w l → xL g a_frames gl l → l.length ≤ 700 → (∀ h, m_find (fun q => decide (fr_ph q = 1 ∧ gO g (fr_nd q) = 13 ∧ fr_x0 q = tag)) l = some h → P (f_openCount, f_typeCount, f_printedCount, f_depthLimit, f_fuelLimit, f_lastStatus, f_lastValue, f_lastError, f_lastDatum, f_lastPlace, f_beatsUsed, f_frameCount, 6, f_currentNode, f_currentEnv, f_result, f_calls, f_inForce, nI h, v, f_exitType, f_exitPlace, a_nodeOp, a_nodeA, a_nodeB, a_nodeParts, a_nodeSize, a_slotSize, a_slotParams, a_openLists, a_typeParent, a_elements, a_locals, a_specialValue, a_specialHas, a_printed, a_frames)) → (m_find (fun q => decide (fr_ph q = 1 ∧ gO g (fr_nd q) = 13 ∧ fr_x0 q = tag)) l = none → wpX_raise P (f_openCount, f_typeCount, f_printedCount, f_depthLimit, f_fuelLimit, f_lastStatus, f_lastValue, f_lastError, f_lastDatum, f_lastPlace, f_beatsUsed, f_frameCount, f_mode, f_currentNode, f_currentEnv, f_result, f_calls, f_inForce, f_exitTarget, f_exitValue, f_exitType, f_exitPlace, a_nodeOp, a_nodeA, a_nodeB, a_nodeParts, a_nodeSize, a_slotSize, a_slotParams, a_openLists, a_typeParent, a_elements, a_locals, a_specialValue, a_specialHas, a_printed, a_frames) x1 5 tag) → ∀ n, l.length < n → wX_throwTo_8 P x1 tag v f_openCount f_typeCount f_printedCount f_depthLimit f_fuelLimit f_lastStatus f_lastValue f_lastError f_lastDatum f_lastPlace f_beatsUsed f_frameCount f_mode f_currentNode f_currentEnv f_result f_calls f_inForce f_exitTarget f_exitValue f_exitType f_exitPlace a_nodeOp a_nodeA a_nodeB a_nodeParts a_nodeSize a_slotSize a_slotParams a_openLists a_typeParent a_elements a_locals a_specialValue a_specialHas a_printed a_frames n (nI l.length - 1)
  | _, _, _, _, _, _, _, 0, hn => by omega
  | [], _, _, _, _, _, h2, n + 1, hn => by
    rw [wX_throwTo_8]
    exact br_t (by decide) (h2 rfl)
  | f :: r, w, W, Y, hl, h1, h2, n + 1, hn => by
    have hl : r.length + 1 ≤ 700 := hl
    have hn : r.length + 1 < n + 1 := hn
    obtain ⟨X1, X2⟩ := Y
    obtain ⟨⟨nd, ev, ph, rm⟩, ⟨gt, x0, x1, x2⟩, ⟨la, bv, bx, ty⟩, dt, sc, sr, tg, pl⟩ := f
    rw [wX_throwTo_8]
    show _ ∧ _
    rw [show nI (List.length (((nd, ev, ph, rm), (gt, x0, x1, x2), (la, bv, bx, ty), dt, sc, sr, tg, pl) :: r)) - 1 = nI r.length from nI_pred r.length]
    have hf : m_find (fun q => decide (fr_ph q = 1 ∧ gO g (fr_nd q) = 13 ∧ fr_x0 q = tag)) (((nd, ev, ph, rm), (gt, x0, x1, x2), (la, bv, bx, ty), dt, sc, sr, tg, pl) :: r) = if decide (ph = 1 ∧ gO g nd = 13 ∧ x0 = tag) = true then some r.length else m_find (fun q => decide (fr_ph q = 1 ∧ gO g (fr_nd q) = 13 ∧ fr_x0 q = tag)) r := rfl
    rw [hf] at h1 h2
    refine br_f (nI_pos (by omega)) (nm_r (x_mul17 _) (x_inb 13 (by decide) W.1 G X X1 (by omega) (fun e1 => br_f (by decide) ⟨xx_i 5 (by omega), ?_⟩) (fun e1 => br_t rfl (nm_r (fo_m1 _) ?_))))
    · have c5 := X1.2.2.2.2.2.1
      have hg : 0 < gt := by
        obtain ⟨_, _, h, _⟩ := W.1
        rcases h with h | h | h | h | h | h | h | h | h | h
        · omega
        · omega
        · omega
        · exact h.2.2.2.2 (by omega)
        all_goals omega
      rw [xx_c 5 5 (by omega), c5 (Or.inr (Or.inr e1)) hg]
      refine fb_if Iff.rfl (fun e2 => ?_) (fun e2 => ?_)
      · exact h1 _ (if_pos (decide_eq_true ⟨e1.1, e1.2, e2⟩))
      · have k : ¬ (decide (ph = 1 ∧ gO g nd = 13 ∧ x0 = tag) = true) := by rw [decide_eq_true_iff]; exact fun z => e2 z.2.2
        rw [if_neg k] at h1 h2
        exact nm_r (fo_m1 _) (x_thr G X W.2 X2 (by omega) h1 h2 n (by omega))
    · have k : ¬ (decide (ph = 1 ∧ gO g nd = 13 ∧ x0 = tag) = true) := by rw [decide_eq_true_iff]; exact fun z => e1 ⟨z.1, z.2.1⟩
      rw [if_neg k] at h1 h2
      exact x_thr G X W.2 X2 (by omega) h1 h2 n (by omega)
theorem x_inv {f_openCount f_typeCount f_printedCount f_depthLimit f_fuelLimit f_lastStatus f_lastValue f_lastError f_lastDatum f_lastPlace f_beatsUsed f_frameCount f_mode f_currentNode f_currentEnv f_result f_calls f_inForce f_exitTarget f_exitValue f_exitType f_exitPlace : Int32} {a_nodeOp a_nodeA a_nodeB a_nodeParts a_nodeSize a_slotSize a_slotParams a_openLists a_typeParent a_elements a_locals a_specialValue a_specialHas a_printed a_frames : Nat → Int32} {P : SX → Prop} {gl : Nat → Option Int32} {x1 v : Int32} (a : Nat) (ha : a < 8) (G : g_w g V Z pa T) (X : xG g V Z f_openCount f_typeCount a_nodeOp a_nodeA a_nodeB a_nodeParts a_nodeSize a_slotSize a_slotParams a_openLists a_typeParent) : ∀ {l : List Fr} {w : Nat}, w_l g V Z pa w l → xL g a_frames gl l → l.length ≤ 700 → (∀ h, m_find (fun q => decide (fr_ph q = 1 ∧ gO g (fr_nd q) = 18 ∧ gA g (fr_nd q) = a)) l = some h → P (f_openCount, f_typeCount, f_printedCount, f_depthLimit, f_fuelLimit, f_lastStatus, f_lastValue, f_lastError, f_lastDatum, f_lastPlace, f_beatsUsed, f_frameCount, 6, f_currentNode, f_currentEnv, f_result, f_calls, f_inForce, nI h, v, f_exitType, f_exitPlace, a_nodeOp, a_nodeA, a_nodeB, a_nodeParts, a_nodeSize, a_slotSize, a_slotParams, a_openLists, a_typeParent, a_elements, a_locals, a_specialValue, a_specialHas, a_printed, a_frames)) → (m_find (fun q => decide (fr_ph q = 1 ∧ gO g (fr_nd q) = 18 ∧ gA g (fr_nd q) = a)) l = none → wpX_raise P (f_openCount, f_typeCount, f_printedCount, f_depthLimit, f_fuelLimit, f_lastStatus, f_lastValue, f_lastError, f_lastDatum, f_lastPlace, f_beatsUsed, f_frameCount, f_mode, f_currentNode, f_currentEnv, f_result, f_calls, f_inForce, f_exitTarget, f_exitValue, f_exitType, f_exitPlace, a_nodeOp, a_nodeA, a_nodeB, a_nodeParts, a_nodeSize, a_slotSize, a_slotParams, a_openLists, a_typeParent, a_elements, a_locals, a_specialValue, a_specialHas, a_printed, a_frames) x1 5 v) → ∀ n, l.length < n → wX_invokeRestart_8 P x1 (nI a) v f_openCount f_typeCount f_printedCount f_depthLimit f_fuelLimit f_lastStatus f_lastValue f_lastError f_lastDatum f_lastPlace f_beatsUsed f_frameCount f_mode f_currentNode f_currentEnv f_result f_calls f_inForce f_exitTarget f_exitValue f_exitType f_exitPlace a_nodeOp a_nodeA a_nodeB a_nodeParts a_nodeSize a_slotSize a_slotParams a_openLists a_typeParent a_elements a_locals a_specialValue a_specialHas a_printed a_frames n (nI l.length - 1)
  | _, _, _, _, _, _, _, 0, hn => by omega
  | [], _, _, _, _, _, h2, n + 1, hn => by
    rw [wX_invokeRestart_8]
    exact br_t (by decide) (h2 rfl)
  | f :: r, w, W, Y, hl, h1, h2, n + 1, hn => by
    have hl : r.length + 1 ≤ 700 := hl
    have hn : r.length + 1 < n + 1 := hn
    obtain ⟨X1, X2⟩ := Y
    obtain ⟨⟨nd, ev, ph, rm⟩, ⟨gt, x0, x1, x2⟩, ⟨la, bv, bx, ty⟩, dt, sc, sr, tg, pl⟩ := f
    rw [wX_invokeRestart_8]
    show _ ∧ _
    rw [show nI (List.length (((nd, ev, ph, rm), (gt, x0, x1, x2), (la, bv, bx, ty), dt, sc, sr, tg, pl) :: r)) - 1 = nI r.length from nI_pred r.length]
    have hf : m_find (fun q => decide (fr_ph q = 1 ∧ gO g (fr_nd q) = 18 ∧ gA g (fr_nd q) = a)) (((nd, ev, ph, rm), (gt, x0, x1, x2), (la, bv, bx, ty), dt, sc, sr, tg, pl) :: r) = if decide (ph = 1 ∧ gO g nd = 18 ∧ gA g nd = a) = true then some r.length else m_find (fun q => decide (fr_ph q = 1 ∧ gO g (fr_nd q) = 18 ∧ gA g (fr_nd q) = a)) r := rfl
    rw [hf] at h1 h2
    refine br_f (nI_pos (by omega)) (nm_r (x_mul17 _) (x_inb 18 (by decide) W.1 G X X1 (by omega) (fun e1 => br_f (by decide) ⟨xx_i 0 (by omega), ?_⟩) (fun e1 => br_t rfl (nm_r (fo_m1 _) ?_))))
    · have hV : V nd := W.1.1
      have N := G.1 nd hV
      have hA : gA g nd < 8 := (N.2.2.2.2.2.2.2.2.1 (by omega)).2.2.1 (by omega)
      have hnd := N.2.2.2.1
      rw [xx_c 0 0 (by omega), X1.1]
      refine ⟨vp_in_nI hnd (by decide), ?_⟩
      rw [nI_clamp (by omega), (X.1 nd hV).2.2.2.2.1 (Or.inr (by unfold fo_ma; omega))]
      refine fb_if (nI_eq (by omega) (by omega)) (fun e2 => ?_) (fun e2 => ?_)
      · exact h1 _ (if_pos (decide_eq_true ⟨e1.1, e1.2, e2⟩))
      · have k : ¬ (decide (ph = 1 ∧ gO g nd = 18 ∧ gA g nd = a) = true) := by rw [decide_eq_true_iff]; exact fun z => e2 z.2.2
        rw [if_neg k] at h1 h2
        exact nm_r (fo_m1 _) (x_inv a ha G X W.2 X2 (by omega) h1 h2 n (by omega))
    · have k : ¬ (decide (ph = 1 ∧ gO g nd = 18 ∧ gA g nd = a) = true) := by rw [decide_eq_true_iff]; exact fun z => e1 ⟨z.1, z.2.1⟩
      rw [if_neg k] at h1 h2
      exact x_inv a ha G X W.2 X2 (by omega) h1 h2 n (by omega)
def x_lo (L : Nat → Int32) (e k : Nat) (x0 x1 x2 : Int32) (i : Nat) : Nat → Int32 := fun j => if 8 * e ≤ j ∧ j < 8 * e + i then (if j - 8 * e < k then (if j - 8 * e = 0 then x0 else if j - 8 * e = 1 then x1 else x2) else 0) else L j
theorem x_lo_0 (L : Nat → Int32) (e k : Nat) (x0 x1 x2 : Int32) : x_lo L e k x0 x1 x2 0 = L := by
  funext j
  exact if_neg (by omega)
theorem x_lo_s (L : Nat → Int32) (e k : Nat) (x0 x1 x2 : Int32) (i : Nat) (v : Int32) (hv : v = if i < k then (if i = 0 then x0 else if i = 1 then x1 else x2) else 0) : upd (x_lo L e k x0 x1 x2 i) (8 * e + i) v = x_lo L e k x0 x1 x2 (i + 1) := by
  funext j
  by_cases h : j = 8 * e + i
  · rw [h, pk_us, hv]
    unfold x_lo
    rw [if_pos (show 8 * e ≤ 8 * e + i ∧ 8 * e + i < 8 * e + (i + 1) by omega), show 8 * e + i - 8 * e = i from by omega]
  · rw [pk_un h]
    unfold x_lo
    by_cases h2 : 8 * e ≤ j ∧ j < 8 * e + i
    · rw [if_pos h2, if_pos (show 8 * e ≤ j ∧ j < 8 * e + (i + 1) by omega)]
    · rw [if_neg h2, if_neg (show ¬ (8 * e ≤ j ∧ j < 8 * e + (i + 1)) by omega)]
theorem x_locs {f_openCount f_typeCount f_printedCount f_depthLimit f_fuelLimit f_lastStatus f_lastValue f_lastError f_lastDatum f_lastPlace f_beatsUsed f_frameCount f_mode f_currentNode f_currentEnv f_result f_inForce f_exitTarget f_exitValue f_exitType f_exitPlace : Int32} {a_nodeOp a_nodeA a_nodeB a_nodeParts a_nodeSize a_slotSize a_slotParams a_openLists a_typeParent a_elements a_specialValue a_specialHas a_printed a_frames : Nat → Int32} {P : SX → Prop} {L : Nat → Int32} {x0 x1 x2 : Int32} (b f k e : Nat) (hb : b + 17 ≤ 11900) (hk : k ≤ 3) (he : e ≤ 5) (h0 : 0 < k → a_frames (b + 5) = x0) (h1 : 1 < k → a_frames (b + 6) = x1) (h2 : 2 < k → a_frames (b + 7) = x2) (h : P (f_openCount, f_typeCount, f_printedCount, f_depthLimit, f_fuelLimit, f_lastStatus, f_lastValue, f_lastError, f_lastDatum, f_lastPlace, f_beatsUsed, f_frameCount, 0, nI (56 * f), nI e, f_result, nI e, f_inForce, f_exitTarget, f_exitValue, f_exitType, f_exitPlace, a_nodeOp, a_nodeA, a_nodeB, a_nodeParts, a_nodeSize, a_slotSize, a_slotParams, a_openLists, a_typeParent, a_elements, x_lo L e k x0 x1 x2 8, a_specialValue, a_specialHas, a_printed, upd a_frames (b + 2) 6)) : ∀ (d i n : Nat), i + d = 8 → d < n → wX_enterFunction_13 P (nI b) (nI f) (nI k) f_openCount f_typeCount f_printedCount f_depthLimit f_fuelLimit f_lastStatus f_lastValue f_lastError f_lastDatum f_lastPlace f_beatsUsed f_frameCount f_mode f_currentNode f_currentEnv f_result (nI e) f_inForce f_exitTarget f_exitValue f_exitType f_exitPlace n (nI i) a_nodeOp a_nodeA a_nodeB a_nodeParts a_nodeSize a_slotSize a_slotParams a_openLists a_typeParent a_elements (x_lo L e k x0 x1 x2 i) a_specialValue a_specialHas a_printed a_frames
  | _, _, 0, _, hn => by omega
  | 0, i, n + 1, hi, hn => by
    have e8 : i = 8 := by omega
    subst e8
    rw [wX_enterFunction_13]
    refine br_t (by decide) (xx_w 2 (by omega) (nm_r ?_ h))
    rw [show (56 : Int32) = nI 56 from rfl, pk_mul, Nat.mul_comm]
  | d + 1, i, n + 1, hi, hn => by
    rw [wX_enterFunction_13]
    have ei : nI e * 8 + nI i = nI (8 * e + i) := by
      rw [show (8 : Int32) = nI 8 from rfl, pk_mul, nI_add, Nat.mul_comm]
    refine br_f (nI_ge (b := 8) (by omega) (by decide)) ?_
    refine fb_if (nI_leI (by omega) (by omega)) (fun z => ?_) (fun z => ?_)
    · rw [ei]
      refine ⟨vp_in_nI (by omega) (by decide), ?_⟩
      rw [nI_clamp (by omega)]
      refine nm_r (x_lo_s L e k x0 x1 x2 i 0 (by rw [if_neg (by omega)])) (nm_r (nI_1 i) ?_)
      exact x_locs b f k e hb hk he h0 h1 h2 h d (i + 1) n (by omega) (by omega)
    · have eb : nI b + 5 + nI i = nI (b + 5 + i) := by
        rw [show (5 : Int32) = nI 5 from rfl, nI_add, nI_add]
      rw [ei, eb]
      refine ⟨vp_in_nI (by omega) (by decide), vp_in_nI (by omega) (by decide), ?_⟩
      rw [nI_clamp (by omega), nI_clamp (by omega)]
      have hv : a_frames (b + 5 + i) = if i < k then (if i = 0 then x0 else if i = 1 then x1 else x2) else 0 := by
        rw [if_pos (by omega)]
        by_cases i0 : i = 0
        · subst i0
          rw [if_pos rfl]; exact h0 (by omega)
        · rw [if_neg i0]
          by_cases i1 : i = 1
          · subst i1
            rw [if_pos rfl]; exact h1 (by omega)
          · rw [if_neg i1]
            have i2 : i = 2 := by omega
            subst i2
            exact h2 (by omega)
      refine nm_r (x_lo_s L e k x0 x1 x2 i _ hv) (nm_r (nI_1 i) ?_)
      exact x_locs b f k e hb hk he h0 h1 h2 h d (i + 1) n (by omega) (by omega)
end
end
section
/-! the class's side: applying -/
section
variable {g : mG} {V : Nat → Prop} {Z : Nat → Nat} {pa : Nat → Option Nat} {T : Nat} {f_openCount f_typeCount : Int32} {a_nodeOp a_nodeA a_nodeB a_nodeParts a_nodeSize a_slotSize a_slotParams a_openLists a_typeParent : Nat → Int32} {s : St} {n : Nat} {ca inf mo cn ce re et ex ey ep v : Int32} {sv sh fr : Nat → Int32} {l r : List Fr} {f : Fr} {P : SX → Prop} {post : Int32 → SX → Prop} {N i p q : Nat}
theorem w_ret (G : g_w g V Z pa T) {f : Fr} {r : List Fr} (F : w_f g V Z pa 0 f r) (W : w_l g V Z pa 1 r) (hO : gO g (fr_nd f) = 12) : ∃ h, m_find (fun q => decide (fr_nd q = gR g (fr_nd f) ∧ fr_ev q = fr_ev f)) (f :: r) = some h := by
  obtain ⟨b1, b2⟩ := (G.1 _ F.1).2.2.2.2.2.2.2.2.2.2 hO
  have ex : ∃ q, q ∈ f :: r ∧ fr_nd q = gR g (fr_nd f) ∧ fr_ev q = fr_ev f := by
    refine b2 (fun m => ∃ q, q ∈ f :: r ∧ fr_nd q = m ∧ fr_ev q = fr_ev f) ⟨f, List.mem_cons_self .., rfl, rfl⟩ ?_
    rintro m p ⟨q, q1, q2, q3⟩ e
    rw [← q2] at e
    obtain ⟨q', c1, c2, c3⟩ := w_lx_all (w := 0) (l := f :: r) ⟨F, W⟩ q1 e
    exact ⟨q', c1, c2, by rw [c3]; exact q3⟩
  obtain ⟨q, q1, q2, q3⟩ := ex
  exact m_find_ex (p := fun q => decide (fr_nd q = gR g (fr_nd f) ∧ fr_ev q = fr_ev f)) q1 (by simp [q2, q3])
/-- a frame whose parts are all there -/
theorem w_done0 (G : g_w g V Z pa T) {nd ev gt bv ty sr : Nat} {x0 x1 x2 la bx dt pl : Int32} {sc : List (Nat × Nat × Nat)} {tg : Option Nat} (F : w_f g V Z pa 0 ((nd, ev, 0, []), (gt, x0, x1, x2), (la, bv, bx, ty), dt, sc, sr, tg, pl) r) : bv = 0 ∧ gt = (gK g nd).length ∧ gO g nd ≤ 26 ∧ gO g nd ≠ 6 ∧ gO g nd ≠ 7 ∧ gO g nd ≠ 9 ∧ gO g nd ≠ 10 ∧ gO g nd ≠ 11 ∧ gO g nd ≠ 13 ∧ gO g nd ≠ 15 ∧ ¬ (16 ≤ gO g nd ∧ gO g nd ≤ 18) ∧ fo_least (gO g nd) ≤ gt ∧ r.length + 2 ≤ 700 ∧ gt < 56 := by
  obtain ⟨f1, f2, f3, f4, f5, f6, f7, f8, f9, f10⟩ := F
  have f1 : V nd := f1
  have hb : bv = 0 := by
    rcases f4 with z | ⟨_, _, z⟩
    · exact z
    · rcases z with ⟨z, _⟩ | z | z <;> cases z
  have f3 : (gO g nd ≤ 26 ∧ gO g nd ≠ 7 ∧ gO g nd ≠ 11 ∧ ¬ (16 ≤ gO g nd ∧ gO g nd ≤ 18) ∧ [] = (gK g nd).drop (gt + 0) ∧ gt + 0 ≤ (gK g nd).length ∧ (gO g nd = 6 ∨ gO g nd = 9 ∨ gO g nd = 10 ∨ gO g nd = 13 ∨ gO g nd = 15 → gt = 0)) := by
    rcases f3 with h | h | h | h | h | h | h | h | h | h
    · exact h.2
    all_goals omega
  obtain ⟨k1, k2, k3, k4, k5, k6, k7⟩ := f3
  have hg : gt = (gK g nd).length := by
    have := congrArg List.length k5
    rw [List.length_drop] at this
    have : 0 = (gK g nd).length - (gt + 0) := this
    omega
  have N := G.1 nd f1
  have hle := N.2.2.2.2.2.2.1 k1
  have h0 : ∀ o, (o = 6 ∨ o = 9 ∨ o = 10 ∨ o = 13 ∨ o = 15) → gO g nd ≠ o := by
    intro o ho z
    have := k7 (by omega)
    have h1 : 1 ≤ fo_least (gO g nd) := by
      rw [z]
      rcases ho with rfl | rfl | rfl | rfl | rfl <;> decide
    omega
  exact ⟨hb, hg, k1, h0 6 (by decide), k2, h0 9 (by decide), h0 10 (by decide), k3, h0 13 (by decide), h0 15 (by decide), k4, by omega, w_len (f9 (by show (0 : Nat) ≠ 7; decide)) N.2.1, by have := (w_ks G (n := nd) f1).2.1; omega⟩
theorem x_kb {a : Nat} {x : Int32} {Q : Int32 → Prop} (ha : a < 4) (h : Q (m_kb a x)) : wpX_keptBits Q (nI a) x := by
  have : a = 0 ∨ a = 1 ∨ a = 2 ∨ a = 3 := by omega
  unfold wpX_keptBits
  rcases this with rfl | rfl | rfl | rfl
  all_goals
    repeat first | exact h | refine br_t (by decide) ?_ | refine br_f (by decide) ?_
theorem fo_ops (o : Nat) (h : o < 27) (h6 : o ≠ 6) (h7 : o ≠ 7) (h9 : o ≠ 9) (h10 : o ≠ 10) (h11 : o ≠ 11) (h13 : o ≠ 13) (h15 : o ≠ 15) (h16 : ¬ (16 ≤ o ∧ o ≤ 18)) : o = 0 ∨ o = 1 ∨ o = 2 ∨ o = 3 ∨ o = 4 ∨ o = 5 ∨ o = 8 ∨ o = 12 ∨ o = 14 ∨ o = 19 ∨ o = 20 ∨ o = 21 ∨ o = 22 ∨ o = 23 ∨ o = 24 ∨ o = 25 ∨ o = 26 := by
  have hc : o = 0 ∨ o = 1 ∨ o = 2 ∨ o = 3 ∨ o = 4 ∨ o = 5 ∨ o = 6 ∨ o = 7 ∨ o = 8 ∨ o = 9 ∨ o = 10 ∨ o = 11 ∨ o = 12 ∨ o = 13 ∨ o = 14 ∨ o = 15 ∨ o = 16 ∨ o = 17 ∨ o = 18 ∨ o = 19 ∨ o = 20 ∨ o = 21 ∨ o = 22 ∨ o = 23 ∨ o = 24 ∨ o = 25 ∨ o = 26 := by
    clear h6 h7 h9 h10 h11 h13 h15 h16
    omega
  rcases hc with rfl | rfl | rfl | rfl | rfl | rfl | rfl | rfl | rfl | rfl | rfl | rfl | rfl | rfl | rfl | rfl | rfl | rfl | rfl | rfl | rfl | rfl | rfl | rfl | rfl | rfl | rfl <;> first | contradiction | decide | exact absurd (by decide) h16
theorem x_add0 (x : Int32) : x + 0 = x := Int32.add_zero x
theorem x_upd_id {a : Nat → Int32} {k : Nat} : upd a k (a k) = a := by
  funext j
  by_cases h : j = k
  · rw [h, pk_us]
  · rw [pk_un h]
theorem x_appR (G : g_w g V Z pa T) (X : xG g V Z f_openCount f_typeCount a_nodeOp a_nodeA a_nodeB a_nodeParts a_nodeSize a_slotSize a_slotParams a_openLists a_typeParent) {nd ev gt bv ty sr : Nat} {x0 x1 x2 la bx dt pl : Int32} {sc : List (Nat × Nat × Nat)} {tg : Option Nat} (F : w_f g V Z pa 0 ((nd, ev, 0, []), (gt, x0, x1, x2), (la, bv, bx, ty), dt, sc, sr, tg, pl) r) (W : w_l g V Z pa 1 r) (hfr : m_fc r ≤ gD g) (hs : w_s g s) (hpr : sPr s < 1000000) (h1 : xSp sv sh (sGl s) (((nd, ev, 0, []), (gt, x0, x1, x2), (la, bv, bx, ty), dt, sc, sr, tg, pl) :: r)) (h2 : xL g fr (sGl s) (((nd, ev, 0, []), (gt, x0, x1, x2), (la, bv, bx, ty), dt, sc, sr, tg, pl) :: r)) (hi : i + 8 < 10000000) (hpq : p + 3 + q = 8) (H : ∀ p q, p + q = 8 → ∀ u', px_R g f_openCount f_typeCount a_nodeOp a_nodeA a_nodeB a_nodeParts a_nodeSize a_slotSize a_slotParams a_openLists a_typeParent (m_app g ((nd, ev, 0, []), (gt, x0, x1, x2), (la, bv, bx, ty), dt, sc, sr, tg, pl) r s) u' → xR post (N + p) (i + q) u') : xR post (N + (p + 3)) (i + q) (xU g f_openCount f_typeCount a_nodeOp a_nodeA a_nodeB a_nodeParts a_nodeSize a_slotSize a_slotParams a_openLists a_typeParent x_z0 s (r.length + 1) (nI (m_fc r)) (x_ix (m_ch g r)) 2 cn ce re et ex ey ep sv sh fr) := by
  obtain ⟨hb, hg, hO, o6, o7, o9, o10, o11, o13, o15, o16, hle, hl, hg56⟩ := w_done0 G F
  have f1 : V nd := F.1
  have f2 : ev ≤ 5 := F.2.1
  obtain ⟨n1, n2, n3, n4, n5, n6, n7, n8, n9, n10, n11⟩ := G.1 nd f1
  obtain ⟨y1, y2, y3, y4, y5, y6, y7, y8⟩ := X.1 nd f1
  have har := n9 hO
  have h2' := h2
  obtain ⟨⟨c0, c1, c2, c3, c4, c5, c6, c7, c8, c9, c10, c11, c12, c13⟩, hL⟩ := h2'
  have d5 : 1 ≤ fo_least (gO g nd) → fr (17 * r.length + 5) = x0 := fun z => c5 (Or.inl rfl) (by omega)
  have d6 : 2 ≤ fo_least (gO g nd) → fr (17 * r.length + 6) = x1 := fun z => c6 rfl (by omega)
  have hbb : 17 * r.length + 17 ≤ 11900 := by omega
  subst hb
  have FIN' : ∀ (v : Int32) (s' : St) (r' : List Fr) (sv' sh' : Nat → Int32) (ca' inf' : Int32), m_app g ((nd, ev, 0, []), (gt, x0, x1, x2), (la, 0, bx, ty), dt, sc, sr, tg, pl) r s = m_dlv r' v s' → r'.length = r.length → xSp sv' sh' (sGl s') (((nd, ev, 0, []), (gt, x0, x1, x2), (la, 0, bx, ty), dt, sc, sr, tg, pl) :: r') → xL g fr (sGl s') (((nd, ev, 0, []), (gt, x0, x1, x2), (la, 0, bx, ty), dt, sc, sr, tg, pl) :: r') → xR post (N + (p + 2)) (i + (q + 1)) (xU g f_openCount f_typeCount a_nodeOp a_nodeA a_nodeB a_nodeParts a_nodeSize a_slotSize a_slotParams a_openLists a_typeParent x_z0 s' (r.length + 1) ca' inf' 3 cn ce v et ex ey ep sv' sh' fr) := by
    intro v s' r' sv' sh' ca' inf' e e2 h1' h2'
    rw [e] at H
    rw [← e2]
    exact x_finR (p := p + 1) (q := q + 1) h1' h2' (Or.inl rfl) (by omega) hi (by omega) H
  have FIN : ∀ v, m_app g ((nd, ev, 0, []), (gt, x0, x1, x2), (la, 0, bx, ty), dt, sc, sr, tg, pl) r s = m_dlv r v s → xR post (N + (p + 2)) (i + (q + 1)) (xU g f_openCount f_typeCount a_nodeOp a_nodeA a_nodeB a_nodeParts a_nodeSize a_slotSize a_slotParams a_openLists a_typeParent x_z0 s (r.length + 1) (nI (m_fc r)) (x_ix (m_ch g r)) 3 cn ce v et ex ey ep sv sh fr) := fun v e => FIN' v s r sv sh _ _ e rfl h1 h2
  have RAI : ∀ t d, m_app g ((nd, ev, 0, []), (gt, x0, x1, x2), (la, 0, bx, ty), dt, sc, sr, tg, pl) r s = m_raise g ((nd, ev, 0, []), (gt, x0, x1, x2), (la, 0, bx, ty), dt, sc, sr, tg, pl) r t d s → xR post (N + (p + 2)) (i + (q + 1)) (xU g f_openCount f_typeCount a_nodeOp a_nodeA a_nodeB a_nodeParts a_nodeSize a_slotSize a_slotParams a_openLists a_typeParent x_z0 s (r.length + 1) (nI (m_fc r)) (x_ix (m_ch g r)) 5 cn ce re et ex ey ep sv sh (upd (upd (upd (upd fr (17 * r.length + 2) 4) (17 * r.length + 13) (nI t)) (17 * r.length + 14) d) (17 * r.length + 15) (x_ix (m_ch g r)))) := by
    intro t d e
    refine H (p + 2) (q + 1) (by omega) _ ?_
    rw [e]
    refine ⟨cn, ce, re, et, ex, ey, ep, sv, sh, (upd (upd (upd (upd fr (17 * r.length + 2) 4) (17 * r.length + 13) (nI t)) (17 * r.length + 14) d) (17 * r.length + 15) (x_ix (m_ch g r))), xSp_c rfl (xSp_d rfl h1), ⟨⟨?_, ?_, ?_, ?_, ?_, ?_, ?_, ?_, ?_, ?_, ?_, ?_, ?_, ?_⟩, xL_keep hL ?_⟩, fun z => (by cases z), fun z => (by cases z), fun z => (by cases z), rfl⟩
    · simp (disch := decide) only [up_n, up_s]; exact c0
    · simp (disch := decide) only [up_n, up_s]; exact c1
    · simp (disch := decide) only [up_n, up_s]; rfl
    · intro c cs z; cases z
    · simp (disch := decide) only [up_n, up_s]; exact c4
    · intro z; rcases z with z | z | ⟨z, _⟩ <;> cases z
    · intro z; cases z
    · intro z; cases z
    · simp (disch := decide) only [up_n, up_s]; exact c8
    · simp (disch := decide) only [up_n, up_s]; exact c9
    · simp (disch := decide) only [up_n, up_s]; exact c10
    · intro z; exact absurd rfl z
    · intro _
      refine ⟨?_, ?_, ?_⟩ <;> simp (disch := decide) only [up_n, up_s]
    · intro z; cases z
    · intro j hj
      rw [pk_un (by omega), pk_un (by omega), pk_un (by omega), pk_un (by omega)]
  have EXI : ∀ v h, m_app g ((nd, ev, 0, []), (gt, x0, x1, x2), (la, 0, bx, ty), dt, sc, sr, tg, pl) r s = (3, v, some h, 0, 0, ((nd, ev, 0, []), (gt, x0, x1, x2), (la, 0, bx, ty), dt, sc, sr, tg, pl) :: r, s) → xR post (N + (p + 2)) (i + (q + 1)) (xU g f_openCount f_typeCount a_nodeOp a_nodeA a_nodeB a_nodeParts a_nodeSize a_slotSize a_slotParams a_openLists a_typeParent x_z0 s (r.length + 1) (nI (m_fc r)) (x_ix (m_ch g r)) 6 cn ce re (nI h) v ey ep sv sh fr) := by
    intro v h e
    refine H (p + 2) (q + 1) (by omega) _ ?_
    rw [e]
    exact ⟨cn, ce, re, nI h, v, ey, ep, sv, sh, fr, h1, h2, fun z => (by cases z), fun z => (by cases z), fun _ => ⟨rfl, rfl, fun z => by cases z⟩, rfl⟩
  refine x_go (by omega) (show ¬ (2 : Int32) = 7 by decide) ?_
  refine br_f (by decide) (br_f (by decide) (br_f (by decide) (br_f (by decide) (br_t rfl ?_))))
  unfold wpX_apply
  dsimp only
  refine x_top r.length ?_
  refine xx_r 0 (by omega) ?_
  rw [c0]
  refine xx_r 5 (by omega) ?_
  refine xx_r 6 (by omega) ?_
  refine xx_n n4 ?_
  rw [y1]
  have hcases := fo_ops (gO g nd) (by omega) o6 o7 o9 o10 o11 o13 o15 o16
  have AP : ∀ {k}, gO g nd = k → m_app g ((nd, ev, 0, []), (gt, x0, x1, x2), (la, 0, bx, ty), dt, sc, sr, tg, pl) r s = m_apk g ((nd, ev, 0, []), (gt, x0, x1, x2), (la, 0, bx, ty), dt, sc, sr, tg, pl) r s k := fun e => congrArg (m_apk g ((nd, ev, 0, []), (gt, x0, x1, x2), (la, 0, bx, ty), dt, sc, sr, tg, pl) r s) e
  rcases hcases with o | o | o | o | o | o | o | o | o | o | o | o | o | o | o | o | o
  · rw [o]
    repeat first | refine br_t (by decide) ?_ | refine br_f (by decide) ?_
    rw [d5 (by rw [o]; decide), d6 (by rw [o]; decide)]
    exact FIN _ (AP o)
  · rw [o]
    repeat first | refine br_t (by decide) ?_ | refine br_f (by decide) ?_
    rw [d5 (by rw [o]; decide), d6 (by rw [o]; decide)]
    exact FIN _ (AP o)
  · rw [o]
    repeat first | refine br_t (by decide) ?_ | refine br_f (by decide) ?_
    rw [d5 (by rw [o]; decide), d6 (by rw [o]; decide)]
    exact FIN _ (AP o)
  · rw [o]
    repeat first | refine br_t (by decide) ?_ | refine br_f (by decide) ?_
    rw [d5 (by rw [o]; decide), d6 (by rw [o]; decide)]
    refine fb_if Iff.rfl (fun e => ?_) (fun e => ?_)
    · refine x_raise (17 * r.length) hbb ?_
      exact RAI 3 x0 ((AP o).trans (if_pos e))
    · refine ⟨e, ?_⟩
      exact FIN _ ((AP o).trans (if_neg e))
  · rw [o]
    repeat first | refine br_t (by decide) ?_ | refine br_f (by decide) ?_
    rw [d5 (by rw [o]; decide), d6 (by rw [o]; decide)]
    refine fb_if Iff.rfl (fun e => ?_) (fun e => ?_)
    · exact FIN 0 ((AP o).trans (congrArg (fun z => m_dlv r z s) (if_pos e)))
    · exact FIN 1 ((AP o).trans (congrArg (fun z => m_dlv r z s) (if_neg e)))
  · rw [o]
    repeat first | refine br_t (by decide) ?_ | refine br_f (by decide) ?_
    rw [d5 (by rw [o]; decide), d6 (by rw [o]; decide)]
    refine fb_if Iff.rfl (fun e => ?_) (fun e => ?_)
    · exact FIN 1 ((AP o).trans (congrArg (fun z => m_dlv r z s) (if_pos e)))
    · exact FIN 0 ((AP o).trans (congrArg (fun z => m_dlv r z s) (if_neg e)))
  · rw [o]
    repeat first | refine br_t (by decide) ?_ | refine br_f (by decide) ?_
    rw [d5 (by rw [o]; decide)]
    refine xx_n n4 ?_
    rw [y5 (Or.inr (by unfold fo_ma; omega))]
    refine xx_n n4 ?_
    rw [y1, o]
    repeat first | refine br_t (by decide) ?_ | refine br_f (by decide) ?_
    have hA := har.1 o
    by_cases a8 : gA g nd < 8
    · refine br_f (nI_ge (b := 8) a8 (by decide)) ⟨xx_i 1 (by omega), ?_⟩
      rw [xx_c 1 1 (by omega), c1]
      have ei : nI ev * 8 + nI (gA g nd) = nI (8 * ev + gA g nd) := by
        rw [show (8 : Int32) = nI 8 from rfl, pk_mul, nI_add, Nat.mul_comm]
      rw [ei]
      refine ⟨vp_in_nI (by omega) (by decide), ?_⟩
      rw [nI_clamp (by omega)]
      refine nm_e ?_
      exact FIN' x0 (s_lo s (upd (sLo s) (8 * ev + gA g nd) x0)) r sv sh _ _ ((AP o).trans (if_pos a8)) rfl h1 h2
    · refine br_t (nI_le (a := 8) (by omega) (by omega)) ?_
      rw [x_sub8 (by omega)]
      refine ⟨vp_in_nI (by omega) (by decide), ?_⟩
      rw [nI_clamp (by omega), show vp_nar .boolean 1 = 1 by decide]
      refine nm_e ⟨vp_in_nI (by omega) (by decide), nm_e ?_⟩
      have e0 := (AP o).trans (if_neg a8)
      have hsp : ∀ gl', (∀ w, w ≠ gA g nd → ∀ r', (∀ w, w ≠ gA g nd → m_cur gl' w r' = m_cur (sGl s) w r) → m_cur gl' (gA g nd) r' = some x0 → xSp (upd sv (gA g nd - 8) x0) (upd sh (gA g nd - 8) 1) gl' (((nd, ev, 0, []), (gt, x0, x1, x2), (la, 0, bx, ty), dt, sc, sr, tg, pl) :: r')) := by
        intro gl' w0 _ r' hw ha
        refine xSp_c rfl ?_
        have h1' := xSp_d rfl h1
        intro j hj
        by_cases e : j = gA g nd - 8
        · rw [e, pk_us, pk_us, show 8 + (gA g nd - 8) = gA g nd from by omega, ha]
          exact ⟨rfl, rfl⟩
        · rw [pk_un e, pk_un e, hw (8 + j) (by omega)]
          exact h1' j hj
      cases hm : m_set (gA g nd) x0 r with
      | some r' =>
        have hm' : m_set (gA g (fr_nd ((nd, ev, 0, []), (gt, x0, x1, x2), (la, 0, bx, ty), dt, sc, sr, tg, pl))) (fr_x0 ((nd, ev, 0, []), (gt, x0, x1, x2), (la, 0, bx, ty), dt, sc, sr, tg, pl)) r = some r' := hm
        rw [hm'] at e0
        have sh' := m_set_sh hm
        obtain ⟨a1, a2, _, _⟩ := m_sh_fun (g := g) (Z := Z) sh'
        refine FIN' x0 s r' _ _ _ _ e0 (m_sh_len sh').symm (hsp _ 0 (by omega) r' (fun w hw => (m_cur_set hm).1 hw) (m_cur_set (w := 0) hm).2) ⟨?_, xL_set hm hL⟩
        rw [← m_sh_len sh']
        exact xF_list h2.1 a1.symm a2.symm (fun z => absurd rfl z)
      | none =>
        have hm' : m_set (gA g (fr_nd ((nd, ev, 0, []), (gt, x0, x1, x2), (la, 0, bx, ty), dt, sc, sr, tg, pl))) (fr_x0 ((nd, ev, 0, []), (gt, x0, x1, x2), (la, 0, bx, ty), dt, sc, sr, tg, pl)) r = none := hm
        rw [hm'] at e0
        obtain ⟨a1, a2⟩ := m_set_none (gl := fun v => if v = gA g nd then some x0 else sGl s v) hm
        have hg' : ∀ w, w ≠ gA g nd → (fun v => if v = gA g nd then some x0 else sGl s v) w = sGl s w := fun w hw => if_neg hw
        refine FIN' x0 (s_gl s (fun v => if v = gA g nd then some x0 else sGl s v)) r _ _ _ _ e0 rfl (hsp (fun v => if v = gA g nd then some x0 else sGl s v) 0 (by omega) r (fun w hw => m_cur_glob hg' hw r) ?_) ⟨xF_list h2.1 rfl rfl (fun z => absurd rfl z), xL_glob hg' a2 hL⟩
        rw [a1]
        exact if_pos rfl
  · rw [o]
    repeat first | refine br_t (by decide) ?_ | refine br_f (by decide) ?_
    rw [d5 (by rw [o]; decide)]
    refine xx_n n4 ?_
    refine xx_n n4 ?_
    rw [y1, o]
    repeat first | refine br_t (by decide) ?_ | refine br_f (by decide) ?_
    obtain ⟨z1, z2⟩ := y7 o
    refine ⟨vp_in_nI n4 (by decide), ?_⟩
    rw [nI_clamp (by omega), z2, pk_sub (by omega), show nd - (nd - gR g nd) = gR g nd from by omega]
    refine xx_r 1 (by omega) ?_
    rw [c1]
    obtain ⟨h, hh⟩ := w_ret G F W o
    refine nm_e ⟨r.length + 3, ?_⟩
    refine x_ret (gl := sGl s) (gR g nd) ev (by omega) f2 (w := 0) (l := ((nd, ev, 0, []), (gt, x0, x1, x2), (la, 0, bx, ty), dt, sc, sr, tg, pl) :: r) ⟨F, W⟩ (fun n hn => (G.1 n hn).2.2.2.1) h2 (by show r.length + 1 ≤ 700; omega) ?_ (r.length + 3) (by show r.length + 1 + 1 < r.length + 3; omega)
    have hh' : m_find (fun q => decide (fr_nd q = gR g nd ∧ fr_ev q = ev)) (((nd, ev, 0, []), (gt, x0, x1, x2), (la, 0, bx, ty), dt, sc, sr, tg, pl) :: r) = some h := hh
    rw [hh']
    refine EXI x0 h ((AP o).trans ?_)
    show (3, x0, m_find (fun q => decide (fr_nd q = gR g nd ∧ fr_ev q = ev)) (((nd, ev, 0, []), (gt, x0, x1, x2), (la, 0, bx, ty), dt, sc, sr, tg, pl) :: r), 0, 0, ((nd, ev, 0, []), (gt, x0, x1, x2), (la, 0, bx, ty), dt, sc, sr, tg, pl) :: r, s) = _
    rw [hh']
  · rw [o]
    repeat first | refine br_t (by decide) ?_ | refine br_f (by decide) ?_
    rw [d5 (by rw [o]; decide), d6 (by rw [o]; decide)]
    refine xx_n n4 ?_
    refine xx_n n4 ?_
    rw [y1, o]
    repeat first | refine br_t (by decide) ?_ | refine br_f (by decide) ?_
    refine nm_e ⟨r.length + 2, ?_⟩
    refine x_thr (gl := sGl s) G X (w := 0) (l := ((nd, ev, 0, []), (gt, x0, x1, x2), (la, 0, bx, ty), dt, sc, sr, tg, pl) :: r) ⟨F, W⟩ h2 (by show r.length + 1 ≤ 700; omega) (fun h hh => ?_) (fun hh => ?_) (r.length + 2) (by show r.length + 1 < r.length + 2; omega)
    · refine EXI x1 h ((AP o).trans ?_)
      show (match m_find (fun q => decide (fr_ph q = 1 ∧ gO g (fr_nd q) = 13 ∧ fr_x0 q = x0)) (((nd, ev, 0, []), (gt, x0, x1, x2), (la, 0, bx, ty), dt, sc, sr, tg, pl) :: r) with
        | some h => (3, x1, some h, 0, 0, ((nd, ev, 0, []), (gt, x0, x1, x2), (la, 0, bx, ty), dt, sc, sr, tg, pl) :: r, s)
        | none => m_raise g ((nd, ev, 0, []), (gt, x0, x1, x2), (la, 0, bx, ty), dt, sc, sr, tg, pl) r 5 x0 s) = _
      rw [hh]
    · refine x_raise (17 * r.length) hbb ?_
      refine RAI 5 x0 ((AP o).trans ?_)
      show (match m_find (fun q => decide (fr_ph q = 1 ∧ gO g (fr_nd q) = 13 ∧ fr_x0 q = x0)) (((nd, ev, 0, []), (gt, x0, x1, x2), (la, 0, bx, ty), dt, sc, sr, tg, pl) :: r) with
        | some h => (3, x1, some h, 0, 0, ((nd, ev, 0, []), (gt, x0, x1, x2), (la, 0, bx, ty), dt, sc, sr, tg, pl) :: r, s)
        | none => m_raise g ((nd, ev, 0, []), (gt, x0, x1, x2), (la, 0, bx, ty), dt, sc, sr, tg, pl) r 5 x0 s) = _
      rw [hh]
  · rw [o]
    repeat first | refine br_t (by decide) ?_ | refine br_f (by decide) ?_
    rw [d5 (by rw [o]; decide)]
    refine xx_n n4 ?_
    rw [y5 (Or.inr (by unfold fo_ma; omega))]
    refine xx_n n4 ?_
    rw [y1, o]
    repeat first | refine br_t (by decide) ?_ | refine br_f (by decide) ?_
    have hA := har.2.2.1 (by omega)
    refine nm_e ⟨r.length + 2, ?_⟩
    refine x_inv (gl := sGl s) (gA g nd) hA G X (w := 0) (l := ((nd, ev, 0, []), (gt, x0, x1, x2), (la, 0, bx, ty), dt, sc, sr, tg, pl) :: r) ⟨F, W⟩ h2 (by show r.length + 1 ≤ 700; omega) (fun h hh => ?_) (fun hh => ?_) (r.length + 2) (by show r.length + 1 < r.length + 2; omega)
    · refine EXI x0 h ((AP o).trans ?_)
      show (match m_find (fun q => decide (fr_ph q = 1 ∧ gO g (fr_nd q) = 18 ∧ gA g (fr_nd q) = gA g nd)) (((nd, ev, 0, []), (gt, x0, x1, x2), (la, 0, bx, ty), dt, sc, sr, tg, pl) :: r) with
        | some h => (3, x0, some h, 0, 0, ((nd, ev, 0, []), (gt, x0, x1, x2), (la, 0, bx, ty), dt, sc, sr, tg, pl) :: r, s)
        | none => m_raise g ((nd, ev, 0, []), (gt, x0, x1, x2), (la, 0, bx, ty), dt, sc, sr, tg, pl) r 5 x0 s) = _
      rw [hh]
    · refine x_raise (17 * r.length) hbb ?_
      refine RAI 5 x0 ((AP o).trans ?_)
      show (match m_find (fun q => decide (fr_ph q = 1 ∧ gO g (fr_nd q) = 18 ∧ gA g (fr_nd q) = gA g nd)) (((nd, ev, 0, []), (gt, x0, x1, x2), (la, 0, bx, ty), dt, sc, sr, tg, pl) :: r) with
        | some h => (3, x0, some h, 0, 0, ((nd, ev, 0, []), (gt, x0, x1, x2), (la, 0, bx, ty), dt, sc, sr, tg, pl) :: r, s)
        | none => m_raise g ((nd, ev, 0, []), (gt, x0, x1, x2), (la, 0, bx, ty), dt, sc, sr, tg, pl) r 5 x0 s) = _
      rw [hh]
  · rw [o]
    repeat first | refine br_t (by decide) ?_ | refine br_f (by decide) ?_
    rw [d5 (by rw [o]; decide)]
    refine ⟨vp_in_nI n4 (by decide), ?_⟩
    rw [nI_clamp (by omega), y5 (Or.inr (by unfold fo_ma; omega))]
    refine x_raise (17 * r.length) hbb ?_
    exact RAI (gA g nd) x0 (AP o)
  · rw [o]
    repeat first | refine br_t (by decide) ?_ | refine br_f (by decide) ?_
    rw [d5 (by rw [o]; decide)]
    refine ⟨vp_in_nI n4 (by decide), ?_⟩
    rw [nI_clamp (by omega), y5 (Or.inr (by unfold fo_ma; omega))]
    refine x_raise (17 * r.length) hbb ?_
    exact RAI (gA g nd) x0 (AP o)
  · rw [o]
    repeat first | refine br_t (by decide) ?_ | refine br_f (by decide) ?_
    rw [d5 (by rw [o]; decide)]
    refine xx_n n4 ?_
    refine xx_n n4 ?_
    rw [y1, o]
    repeat first | refine br_t (by decide) ?_ | refine br_f (by decide) ?_
    refine fb_if (nI_leI (a := 24) (by decide) (by omega)) (fun e => ?_) (fun e => ?_)
    · refine nm_r (nI_1 _) ?_
      have ep : s_pr s x0 = (s.1, s.2.1, s.2.2.1, s.2.2.2.1 + 1, s.2.2.2.2) := by
        unfold s_pr
        rw [if_neg (by show ¬ sPr s < 24; omega)]
      have e3 := AP o
      have e3 : m_app g ((nd, ev, 0, []), (gt, x0, x1, x2), (la, 0, bx, ty), dt, sc, sr, tg, pl) r s = m_dlv r x0 (s_pr s x0) := e3
      rw [ep] at e3
      exact FIN' x0 _ r sv sh _ _ e3 rfl h1 h2
    · refine ⟨vp_in_nI (by omega) (by decide), ?_⟩
      rw [nI_clamp (by omega)]
      refine nm_e (nm_r (nI_1 _) ?_)
      have ep : s_pr s x0 = (s.1, s.2.1, upd s.2.2.1 s.2.2.2.1 x0, s.2.2.2.1 + 1, s.2.2.2.2) := by
        unfold s_pr
        rw [if_pos (by show sPr s < 24; omega)]
      have e3 := AP o
      have e3 : m_app g ((nd, ev, 0, []), (gt, x0, x1, x2), (la, 0, bx, ty), dt, sc, sr, tg, pl) r s = m_dlv r x0 (s_pr s x0) := e3
      rw [ep] at e3
      exact FIN' x0 _ r sv sh _ _ e3 rfl h1 h2
  · rw [o]
    repeat first | refine br_t (by decide) ?_ | refine br_f (by decide) ?_
    have hA := har.2.2.2.2.1 o
    obtain ⟨s1, s2, s3⟩ := X.2.1 (gA g nd) hA
    have hF : gF g ≤ 200 := G.2.2.2.2.2.2.1
    have hD : gD g ≤ 5 := G.2.2.2.2.2.1
    have hP : gP g (gA g nd) ≤ 3 := G.2.2.2.2.2.2.2.2 _
    have hKl : (gK g nd).length < 56 := by omega
    have e0 := AP o
    have e0 : m_app g ((nd, ev, 0, []), (gt, x0, x1, x2), (la, 0, bx, ty), dt, sc, sr, tg, pl) r s = (if gC g (gA g nd) = 0 then m_raise g ((nd, ev, 0, []), (gt, x0, x1, x2), (la, 0, bx, ty), dt, sc, sr, tg, pl) r 8 (nI (gA g nd)) s
      else if gP g (gA g nd) ≠ (gK g nd).length then m_raise g ((nd, ev, 0, []), (gt, x0, x1, x2), (la, 0, bx, ty), dt, sc, sr, tg, pl) r 9 (nI (gK g nd).length) s
      else if gD g ≤ m_fc r then m_raise g ((nd, ev, 0, []), (gt, x0, x1, x2), (la, 0, bx, ty), dt, sc, sr, tg, pl) r 7 (nI (m_fc r)) s
      else if gF g ≤ sBe s then (6, 0, none, 0, 0, ((nd, ev, 0, []), (gt, x0, x1, x2), (la, 0, bx, ty), dt, sc, sr, tg, pl) :: r, s)
      else m_ev g (56 * gA g nd) (m_fc r + 1) (((nd, ev, 6, []), (gt, x0, x1, x2), (la, 0, bx, ty), dt, sc, sr, tg, pl) :: r) (s_lo (s_be s (sBe s + 1)) (m_lo s (m_fc r + 1) (gK g nd).length x0 x1 x2))) := e0
    refine xx_n n4 ?_
    rw [y5 (Or.inr (by unfold fo_ma; omega))]
    refine xx_n n4 ?_
    rw [y2]
    refine ⟨vp_in_nI (by omega) (by decide), ?_⟩
    rw [nI_clamp (by omega), s1]
    refine fb_if (nI_eq (b := 0) (by omega) (by decide)) (fun e => ?_) (fun e => ?_)
    · refine x_raise (17 * r.length) hbb ?_
      exact RAI 8 _ (e0.trans (if_pos e))
    · rw [if_neg e] at e0
      refine ⟨vp_in_nI (by omega) (by decide), ?_⟩
      rw [s3]
      refine fb_if (nI_eq (by omega) (by omega)) (fun e2 => ?_) (fun e2 => ?_)
      · rw [if_neg (by omega)] at e0
        refine fb_if (nI_ltI (by omega) (by omega)) (fun e3 => ?_) (fun e3 => ?_)
        · rw [if_neg (by omega)] at e0
          refine x_beat hs.1 hF (fun e4 => ?_) (fun e4 => ?_)
          · rw [if_neg (by omega)] at e0
            refine br_f (by decide) ?_
            refine nm_r (nI_1 _) ⟨9, ?_⟩
            have hx := x_lo_0 (sLo s) (m_fc r + 1) (gK g nd).length x0 x1 x2
            have hloc := x_locs (P := fun u => xR post (N + (p + 2)) (i + (q + 1)) u) (f_openCount := f_openCount) (f_typeCount := f_typeCount) (f_printedCount := nI (sPr s)) (f_depthLimit := nI (gD g)) (f_fuelLimit := nI (gF g)) (f_lastStatus := x_z0.1) (f_lastValue := x_z0.2.1) (f_lastError := x_z0.2.2.1) (f_lastDatum := x_z0.2.2.2.1) (f_lastPlace := x_z0.2.2.2.2) (f_beatsUsed := nI (sBe s + 1)) (f_frameCount := nI (r.length + 1)) (f_mode := 2) (f_currentNode := cn) (f_currentEnv := ce) (f_result := re) (f_inForce := x_ix (m_ch g r)) (f_exitTarget := et) (f_exitValue := ex) (f_exitType := ey) (f_exitPlace := ep) (a_nodeOp := a_nodeOp) (a_nodeA := a_nodeA) (a_nodeB := a_nodeB) (a_nodeParts := a_nodeParts) (a_nodeSize := a_nodeSize) (a_slotSize := a_slotSize) (a_slotParams := a_slotParams) (a_openLists := a_openLists) (a_typeParent := a_typeParent) (a_elements := sCe s) (a_specialValue := sv) (a_specialHas := sh) (a_printed := sOu s) (a_frames := fr) (L := sLo s) (x0 := x0) (x1 := x1) (x2 := x2) (17 * r.length) (gA g nd) (gK g nd).length (m_fc r + 1) hbb (by omega) (by omega) (fun z => c5 (Or.inl rfl) (by omega)) (fun z => c6 rfl (by omega)) (fun z => c7 rfl (by omega)) ?_ 8 0 9 (by omega) (by omega)
            · rw [hx] at hloc
              exact hloc
            · rw [e0] at H
              obtain ⟨v1, v2⟩ := G.2.1 _ hA e
              refine x_evR (p := p + 1) (q := q + 1) (s := s_lo (s_be s (sBe s + 1)) (m_lo s (m_fc r + 1) (gK g nd).length x0 x1 x2)) (l := ((nd, ev, 6, []), (gt, x0, x1, x2), (la, 0, bx, ty), dt, sc, sr, tg, pl) :: r) G X v1 (by omega) (by show r.length + 1 < 700; omega) (by show sBe s + 1 ≤ gF g; omega) (xSp_c rfl (xSp_d rfl h1)) ⟨⟨?_, ?_, ?_, ?_, ?_, ?_, ?_, ?_, ?_, ?_, ?_, ?_, ?_, ?_⟩, xL_keep hL ?_⟩ hi (by omega) H
              · simp (disch := decide) only [up_n, up_s]; exact c0
              · simp (disch := decide) only [up_n, up_s]; exact c1
              · simp (disch := decide) only [up_n, up_s]; rfl
              · intro c cs z; cases z
              · simp (disch := decide) only [up_n, up_s]; exact c4
              · intro z; rcases z with z | z | ⟨z, _⟩ <;> cases z
              · intro z; cases z
              · intro z; cases z
              · simp (disch := decide) only [up_n, up_s]; exact c8
              · simp (disch := decide) only [up_n, up_s]; exact c9
              · simp (disch := decide) only [up_n, up_s]; exact c10
              · intro z; exact absurd rfl z
              · intro z; rcases z with z | z <;> cases z
              · intro z; cases z
              · intro j hj
                rw [pk_un (by omega)]
          · rw [if_pos e4] at e0
            refine br_t rfl ?_
            refine H (p + 2) (q + 1) (by omega) _ ?_
            rw [e0]
            exact ⟨cn, ce, re, et, ex, ey, ep, sv, sh, fr, h1, h2, fun z => (by cases z), fun z => (by cases z), fun z => (by cases z), rfl⟩
        · rw [if_pos (by omega)] at e0
          refine x_raise (17 * r.length) hbb ?_
          exact RAI 7 _ e0
      · rw [if_pos e2] at e0
        refine x_raise (17 * r.length) hbb ?_
        exact RAI 9 _ e0
  · rw [o]
    repeat first | refine br_t (by decide) ?_ | refine br_f (by decide) ?_
    rw [d5 (by rw [o]; decide)]
    have hA := har.2.2.2.2.2 (by omega)
    refine ⟨vp_in_nI n4 (by decide), ?_⟩
    rw [nI_clamp (by omega), y5 (Or.inr (by unfold fo_ma; omega))]
    have e0 := AP o
    have e0 : m_app g ((nd, ev, 0, []), (gt, x0, x1, x2), (la, 0, bx, ty), dt, sc, sr, tg, pl) r s = (if x0 < 0 ∨ 16 ≤ x0 then m_raise g ((nd, ev, 0, []), (gt, x0, x1, x2), (la, 0, bx, ty), dt, sc, sr, tg, pl) r 6 x0 s else m_dlv r (sCe s (16 * gA g nd + x0.toNatClampNeg)) s) := e0
    refine fb_if Iff.rfl (fun e => ?_) (fun e => ?_)
    · rw [if_pos (Or.inl e)] at e0
      refine br_t rfl ?_
      refine x_raise (17 * r.length) hbb ?_
      exact RAI 6 x0 e0
    · refine fb_if Iff.rfl (fun e2 => ?_) (fun e2 => ?_)
      · rw [if_pos (Or.inr e2)] at e0
        refine br_t rfl ?_
        refine x_raise (17 * r.length) hbb ?_
        exact RAI 6 x0 e0
      · rw [if_neg (by rintro (z | z); exact e z; exact e2 z)] at e0
        obtain ⟨j, hj, rfl⟩ := fb_lt 0 16 e e2 (by decide) (by decide)
        rw [Nat.zero_add] at *
        rw [nI_clamp (by omega)] at e0
        refine br_f (by decide) ?_
        have ei : nI (gA g nd) * 16 + nI j = nI (16 * gA g nd + j) := by
          rw [show (16 : Int32) = nI 16 from rfl, pk_mul, nI_add, Nat.mul_comm]
        refine nm_r ei ?_
        refine xx_n (by omega) ?_
        refine x_kb hA ?_
        rw [x_add0, hs.2 _ _ hA (by omega)]
        refine ⟨vp_in_nI (by omega) (by decide), ?_⟩
        rw [nI_clamp (by omega), x_upd_id]
        refine nm_e ?_
        exact FIN _ e0
  · rw [o]
    repeat first | refine br_t (by decide) ?_ | refine br_f (by decide) ?_
    rw [d5 (by rw [o]; decide), d6 (by rw [o]; decide)]
    have hA := har.2.2.2.2.2 (by omega)
    refine ⟨vp_in_nI n4 (by decide), ?_⟩
    rw [nI_clamp (by omega), y5 (Or.inr (by unfold fo_ma; omega))]
    have e0 := AP o
    have e0 : m_app g ((nd, ev, 0, []), (gt, x0, x1, x2), (la, 0, bx, ty), dt, sc, sr, tg, pl) r s = (if x0 < 0 ∨ 16 ≤ x0 then m_raise g ((nd, ev, 0, []), (gt, x0, x1, x2), (la, 0, bx, ty), dt, sc, sr, tg, pl) r 6 x0 s else m_dlv r (sCe s (16 * gA g nd + x0.toNatClampNeg)) (s_ce s (upd (sCe s) (16 * gA g nd + x0.toNatClampNeg) (m_kb (gA g nd) (sCe s (16 * gA g nd + x0.toNatClampNeg) + x1))))) := e0
    refine fb_if Iff.rfl (fun e => ?_) (fun e => ?_)
    · rw [if_pos (Or.inl e)] at e0
      refine br_t rfl ?_
      refine x_raise (17 * r.length) hbb ?_
      exact RAI 6 x0 e0
    · refine fb_if Iff.rfl (fun e2 => ?_) (fun e2 => ?_)
      · rw [if_pos (Or.inr e2)] at e0
        refine br_t rfl ?_
        refine x_raise (17 * r.length) hbb ?_
        exact RAI 6 x0 e0
      · rw [if_neg (by rintro (z | z); exact e z; exact e2 z)] at e0
        obtain ⟨j, hj, rfl⟩ := fb_lt 0 16 e e2 (by decide) (by decide)
        rw [Nat.zero_add] at *
        rw [nI_clamp (by omega)] at e0
        refine br_f (by decide) ?_
        have ei : nI (gA g nd) * 16 + nI j = nI (16 * gA g nd + j) := by
          rw [show (16 : Int32) = nI 16 from rfl, pk_mul, nI_add, Nat.mul_comm]
        refine nm_r ei ?_
        refine xx_n (by omega) ?_
        refine x_kb hA ?_
        refine ⟨vp_in_nI (by omega) (by decide), ?_⟩
        rw [nI_clamp (by omega)]
        refine nm_e ?_
        exact FIN' _ (s_ce s (upd (sCe s) (16 * gA g nd + j) (m_kb (gA g nd) (sCe s (16 * gA g nd + j) + x1)))) r sv sh _ _ e0 rfl h1 h2
  · rw [o]
    repeat first | refine br_t (by decide) ?_ | refine br_f (by decide) ?_
    refine xx_n n4 ?_
    rw [y5 (Or.inr (by unfold fo_ma; omega))]
    refine xx_n n4 ?_
    rw [y1, o]
    repeat first | refine br_t (by decide) ?_ | refine br_f (by decide) ?_
    have hA := har.2.1 (by omega)
    rw [x_sub8 (by omega)]
    refine ⟨vp_in_nI (by omega) (by decide), ?_⟩
    rw [nI_clamp (by omega)]
    have h1' := xSp_d rfl h1 (gA g nd - 8) (by omega)
    rw [show 8 + (gA g nd - 8) = gA g nd from by omega] at h1'
    have e0 := AP o
    have e0 : m_app g ((nd, ev, 0, []), (gt, x0, x1, x2), (la, 0, bx, ty), dt, sc, sr, tg, pl) r s = m_dlv r (match m_cur (sGl s) (gA g nd) r with
      | some _ => 1
      | none => 0) s := e0
    cases hm : m_cur (sGl s) (gA g nd) r with
    | none =>
      rw [hm] at e0 h1'
      exact br_t h1' (FIN 0 e0)
    | some x =>
      rw [hm] at e0 h1'
      refine br_f ?_ (FIN 1 e0)
      rw [h1'.1]
      decide
end
end
section
/-! the class's side: going on, taking a value -/
section
variable {g : mG} {V : Nat → Prop} {Z : Nat → Nat} {pa : Nat → Option Nat} {T : Nat} {f_openCount f_typeCount : Int32} {a_nodeOp a_nodeA a_nodeB a_nodeParts a_nodeSize a_slotSize a_slotParams a_openLists a_typeParent : Nat → Int32} {s : St} {n : Nat} {ca inf mo cn ce re et ex ey ep v : Int32} {sv sh fr : Nat → Int32} {l r : List Fr} {f : Fr} {P : SX → Prop} {post : Int32 → SX → Prop} {N i p q : Nat}
theorem x_tgr {tgt : Option Nat} {r : List Fr} (h : w_tg g tgt r) (hl : r.length < 700) : ¬ nI r.length = x_tg tgt := by
  cases tgt with
  | none =>
    intro z
    have : (0 : Int32) ≤ -1 := by
      show (0 : Int32) ≤ x_tg none
      rw [← z]; exact nI_pos' (by omega)
    exact absurd this (by decide)
  | some k =>
    obtain ⟨q, r', a1, a2, _⟩ := h k rfl
    have := a1.length_le
    have : r'.length + 1 ≤ r.length := this
    exact xx_ne (by omega) (by omega) (by omega)
theorem fo_ph (ph : Nat) (h : ph < 9) (h4 : ph ≠ 4) (h8 : ph ≠ 8) : ph = 0 ∨ ph = 1 ∨ ph = 2 ∨ ph = 3 ∨ ph = 5 ∨ ph = 6 ∨ ph = 7 := by omega
theorem x_proR (G : g_w g V Z pa T) (X : xG g V Z f_openCount f_typeCount a_nodeOp a_nodeA a_nodeB a_nodeParts a_nodeSize a_slotSize a_slotParams a_openLists a_typeParent) {nd ev ph gt bv ty sr : Nat} {rm : List Nat} {x0 x1 x2 la bx dt pl : Int32} {sc : List (Nat × Nat × Nat)} {tg : Option Nat} (F : w_f g V Z pa 0 ((nd, ev, ph, rm), (gt, x0, x1, x2), (la, bv, bx, ty), dt, sc, sr, tg, pl) r) (W : w_l g V Z pa 1 r) (h4 : ph ≠ 4) (h8 : ph ≠ 8) (hfr : m_fc r ≤ gD g) (hl : r.length < 700) (hs : w_s g s) (hpr : sPr s < 1000000) (h1 : xSp sv sh (sGl s) (((nd, ev, ph, rm), (gt, x0, x1, x2), (la, bv, bx, ty), dt, sc, sr, tg, pl) :: r)) (h2 : xL g fr (sGl s) (((nd, ev, ph, rm), (gt, x0, x1, x2), (la, bv, bx, ty), dt, sc, sr, tg, pl) :: r)) (hla : (ph = 1 ∨ 5 ≤ ph) → rm = [] → gO g nd ≠ 10 → re = la) (hi : i + 8 < 10000000) (hpq : p + 4 + q = 8) (H : ∀ p q, p + q = 8 → ∀ u', px_R g f_openCount f_typeCount a_nodeOp a_nodeA a_nodeB a_nodeParts a_nodeSize a_slotSize a_slotParams a_openLists a_typeParent (m_pro g ((nd, ev, ph, rm), (gt, x0, x1, x2), (la, bv, bx, ty), dt, sc, sr, tg, pl) r s) u' → xR post (N + p) (i + q) u') : xR post (N + (p + 4)) (i + q) (xU g f_openCount f_typeCount a_nodeOp a_nodeA a_nodeB a_nodeParts a_nodeSize a_slotSize a_slotParams a_openLists a_typeParent x_z0 s (r.length + 1) (nI (m_fc (((nd, ev, ph, rm), (gt, x0, x1, x2), (la, bv, bx, ty), dt, sc, sr, tg, pl) :: r))) (x_ix (m_ch g (((nd, ev, ph, rm), (gt, x0, x1, x2), (la, bv, bx, ty), dt, sc, sr, tg, pl) :: r))) 1 cn ce re et ex ey ep sv sh fr) := by
  have F' := F
  obtain ⟨f1, f2, f3, f4, f5, f6, f7, f8, f9, f10⟩ := F'
  have f1 : V nd := f1
  have f2 : ev ≤ 5 := f2
  have NN := G.1 nd f1
  obtain ⟨n1, n2, n3, n4, n5, n6, n7, n8, n9, n10, n11⟩ := NN
  cases rm with
  | cons c cs =>
    obtain ⟨p1, p2⟩ := w_lk_ph f3
    have hc : c ∈ gK g nd := by
      rcases w_lk_cons f3 with z | ⟨_, z, j, z1, z2⟩
      · exact z.2
      · have := fo_lst (k := 3) (G.1 nd f1) (by omega) (by rw [z]; rfl)
        rw [z2]; exact fo_getj (by omega)
    have hlen := w_len (f9 (by show ph ≠ 7; omega)) (by show 1 ≤ Z nd; exact n2)
    have hk := (w_ks G (n := nd) f1).2.1
    have hrm := w_rml f3
    have hrm : cs.length + 1 ≤ (gK g nd).length + 1 := hrm
    exact x_pcR (p := p + 2) (q := q) G X (by omega) (n5 c hc).1 f2 (w_nxt G f1 f3) h1 h2 (by omega) hs.1 hi (by omega) rfl rfl H
  | nil =>
    have h2' := h2
    obtain ⟨⟨c0, c1, c2, c3, c4, c5, c6, c7, c8, c9, c10, c11, c12, c13⟩, hL⟩ := h2'
    have c4 : fr (17 * r.length + 4) = nI 0 := c4
    have hbb : 17 * r.length + 17 ≤ 11900 := by omega
    obtain ⟨y1, y2, y3, y4, y5, y6, y7, y8⟩ := X.1 nd f1
    have hF : gF g ≤ 200 := G.2.2.2.2.2.2.1
    have hph : ph < 9 := by
      rcases f3 with h | h | h | h | h | h | h | h | h | h <;> omega
    have FIN : ∀ v, (∀ p q, p + q = 8 → ∀ u', px_R g f_openCount f_typeCount a_nodeOp a_nodeA a_nodeB a_nodeParts a_nodeSize a_slotSize a_slotParams a_openLists a_typeParent (m_dlv r v s) u' → xR post (N + p) (i + q) u') → xR post (N + (p + 3)) (i + (q + 1)) (xU g f_openCount f_typeCount a_nodeOp a_nodeA a_nodeB a_nodeParts a_nodeSize a_slotSize a_slotParams a_openLists a_typeParent x_z0 s (r.length + 1) (nI (m_fc (((nd, ev, ph, []), (gt, x0, x1, x2), (la, bv, bx, ty), dt, sc, sr, tg, pl) :: r))) (x_ix (m_ch g (((nd, ev, ph, []), (gt, x0, x1, x2), (la, bv, bx, ty), dt, sc, sr, tg, pl) :: r))) 3 cn ce v et ex ey ep sv sh fr) := fun v H => x_finR (p := p + 2) (q := q + 1) h1 h2 (w_bdv f4) hl hi (by omega) H
    refine x_go (by omega) (show ¬ (1 : Int32) = 7 by decide) ?_
    refine br_f (by decide) (br_f (by decide) (br_f (by decide) (br_t rfl ?_)))
    unfold wpX_proceed
    dsimp only
    refine x_top r.length ?_
    refine ⟨xx_i 4 (by omega), ?_⟩
    rw [xx_c 4 4 (by omega), c4]
    refine br_t (by decide) ?_
    refine xx_r 2 (by omega) ?_
    rw [c2]
    have hcase := fo_ph ph hph h4 h8
    rcases hcase with rfl | rfl | rfl | rfl | rfl | rfl | rfl
    · repeat first | refine br_t (by decide) ?_ | refine br_f (by decide) ?_
      exact x_appR (p := p) (q := q + 1) G X F W hfr hs hpr h1 h2 hi (by omega) H
    · repeat first | refine br_t (by decide) ?_ | refine br_f (by decide) ?_
      refine xx_r 0 (by omega) ?_
      rw [c0]
      refine ⟨vp_in_nI n4 (by decide), ?_⟩
      rw [nI_clamp (by omega), y1]
      refine fb_if (nI_eq (b := 10) (by omega) (by decide)) (fun o => ?_) (fun o => ?_)
      · have hb : bv = 0 := by
          rcases f4 with z | ⟨_, _, z⟩
          · exact z
          · rcases z with ⟨_, z⟩ | z | z
            · have z : gO g nd = 9 := z
              omega
            · cases z
            · cases z
        subst hb
        have ec : m_ch g (((nd, ev, 1, []), (gt, x0, x1, x2), (la, 0, bx, ty), dt, sc, sr, tg, pl) :: r) = m_ch g r := by
          show (if (1 : Nat) = 7 then sc else if (1 : Nat) = 1 ∧ (gO g nd = 16 ∨ gO g nd = 17) then (r.length, nd, ev) :: m_ch g r else m_ch g r) = m_ch g r
          rw [if_neg (by decide), if_neg (by omega)]
        have em : m_new g nd ev = ((nd, ev, 0, gK g nd), (0, 0, 0, 0), (0, 0, 0, 0), 0, [], 0, none, 0) := by
          unfold m_new
          rw [if_neg (by omega), if_neg (by omega)]
        have e0 : m_pro g ((nd, ev, 1, []), (gt, x0, x1, x2), (la, 0, bx, ty), dt, sc, sr, tg, pl) r s = (if sBe s < gF g then (0, 0, none, 0, 0, m_new g nd ev :: r, s_be s (sBe s + 1)) else (6, 0, none, 0, 0, ((nd, ev, 1, []), (gt, x0, x1, x2), (la, 0, bx, ty), dt, sc, sr, tg, pl) :: r, s)) := if_pos o
        rw [em] at e0
        refine x_round (17 * r.length) nd (gK g nd).length hbb n4 hs.1 hF c0 y2 (fun z => ?_) (fun z => ?_)
        · rw [if_pos z] at e0
          refine H (p + 3) (q + 1) (by omega) _ ?_
          rw [e0]
          refine ⟨cn, ce, re, et, ex, ey, ep, sv, sh, upd (upd (upd fr (17 * r.length + 2) 0) (17 * r.length + 3) (nI (nd + 1))) (17 * r.length + 4) (nI (gK g nd).length), xSp_c rfl (xSp_d rfl h1), ⟨?_, xL_keep hL ?_⟩, fun _ f r z z1 => (by injection z with z2 z3; rw [← z2] at z1; cases z1), fun z => (by cases z), fun z => (by cases z), ?_⟩
          · refine xF_new (by decide) ?_ ?_ ?_ (fun c cs z => ?_) ?_ ?_ ?_ ?_ <;> simp (disch := decide) only [up_n, up_s]
            · exact c0
            · exact c1
            · rfl
            · rw [(x_K1 G (n := nd) f1 c cs z).1]
            · exact c8
            · exact c9
            · exact c10
          · intro j hj
            rw [pk_un (by omega), pk_un (by omega), pk_un (by omega)]
          · rw [ec]; rfl
        · rw [if_neg (by omega)] at e0
          refine H (p + 3) (q + 1) (by omega) _ ?_
          rw [e0]
          exact ⟨cn, ce, re, et, ex, ey, ep, sv, sh, fr, h1, h2, fun z => (by cases z), fun z => (by cases z), fun z => (by cases z), rfl⟩
      · have e0 : m_pro g ((nd, ev, 1, []), (gt, x0, x1, x2), (la, bv, bx, ty), dt, sc, sr, tg, pl) r s = m_dlv r la s := if_neg o
        rw [hla (Or.inl rfl) rfl o]
        rw [e0] at H
        exact FIN la H
    · repeat first | refine br_t (by decide) ?_ | refine br_f (by decide) ?_
      have hgt : 0 < gt := by
        rcases f3 with h | h | h | h | h | h | h | h | h | h
        · omega
        · omega
        · omega
        · omega
        · exact h.2.2.1
        all_goals omega
      refine ⟨xx_i 5 (by omega), ?_⟩
      rw [xx_c 5 5 (by omega), c5 (Or.inr (Or.inl rfl)) hgt]
      exact FIN x0 H
    · repeat first | refine br_t (by decide) ?_ | refine br_f (by decide) ?_
      obtain ⟨g1, g2⟩ := f10 rfl
      have g1 : w_tg g tg r := g1
      obtain ⟨k1, k2, k3⟩ := c13 rfl
      have hb : bv = 0 := by
        rcases f4 with z | ⟨_, _, z⟩
        · exact z
        · rcases z with ⟨z, _⟩ | z | z <;> cases z
      subst hb
      refine xx_r 13 (by omega) ?_
      refine xx_r 16 (by omega) ?_
      refine ⟨xx_i 15 (by omega), xx_i 14 (by omega), ?_⟩
      rw [xx_c 15 15 (by omega), xx_c 14 14 (by omega), k1, k2]
      show xR post (N + (p + 3)) (i + (q + 1)) (xU g f_openCount f_typeCount a_nodeOp a_nodeA a_nodeB a_nodeParts a_nodeSize a_slotSize a_slotParams a_openLists a_typeParent x_z0 s (r.length + 1) (nI (m_fc r)) (x_ix (m_ch g r)) 6 cn ce re (x_tg tg) dt (fr (17 * r.length + 13)) (fr (17 * r.length + 16)) sv sh fr)
      refine x_go (by omega) (show ¬ (6 : Int32) = 7 by decide) ?_
      refine br_f (by decide) (br_t (by decide) ?_)
      refine br_f (xx_ne (a := r.length + 1) (b := 0) (by omega) (by omega) (by decide)) ?_
      refine x_top r.length ?_
      rw [nI_pred]
      refine br_f (x_tgr g1 hl) ⟨xx_i 2 (by omega), ?_⟩
      rw [xx_c 2 2 (by omega), c2]
      refine br_f (by decide) ?_
      refine x_pop (f := ((nd, ev, 3, []), (gt, x0, x1, x2), (la, 0, bx, ty), dt, sc, sr, tg, pl)) h1 h2 (Or.inl rfl) hl (fun sv' sh' hs' => ?_)
      refine H (p + 2) (q + 2) (by omega) _ ?_
      exact ⟨cn, ce, re, x_tg tg, dt, fr (17 * r.length + 13), fr (17 * r.length + 16), sv', sh', fr, hs', hL, fun z => (by cases z), fun z => (by cases z), fun _ => ⟨rfl, rfl, fun z => k3 z⟩, rfl⟩
    · repeat first | refine br_t (by decide) ?_ | refine br_f (by decide) ?_
      rw [hla (Or.inr (by decide)) rfl (by
        rcases f3 with h | h | h | h | h | h | h | h | h | h <;> omega)]
      exact FIN la H
    · repeat first | refine br_t (by decide) ?_ | refine br_f (by decide) ?_
      rw [hla (Or.inr (by decide)) rfl (by
        rcases f3 with h | h | h | h | h | h | h | h | h | h <;> omega)]
      exact FIN la H
    · repeat first | refine br_t (by decide) ?_ | refine br_f (by decide) ?_
      rw [hla (Or.inr (by decide)) rfl (by
        rcases f3 with h | h | h | h | h | h | h | h | h | h <;> omega)]
      exact FIN la H
theorem x_bind {f_openCount f_typeCount f_printedCount f_depthLimit f_fuelLimit f_lastStatus f_lastValue f_lastError f_lastDatum f_lastPlace f_beatsUsed f_frameCount f_mode f_currentNode f_currentEnv f_result f_calls f_inForce f_exitTarget f_exitValue f_exitType f_exitPlace : Int32} {a_nodeOp a_nodeA a_nodeB a_nodeParts a_nodeSize a_slotSize a_slotParams a_openLists a_typeParent a_elements a_locals a_specialValue a_specialHas a_printed a_frames : Nat → Int32} {P : SX → Prop} {v : Int32} (b a : Nat) (hb : b + 17 ≤ 11900) (h8 : 8 ≤ a) (h12 : a < 12) (hsh : a_specialHas (a - 8) = 0 ∨ a_specialHas (a - 8) = 1) (h : P (f_openCount, f_typeCount, f_printedCount, f_depthLimit, f_fuelLimit, f_lastStatus, f_lastValue, f_lastError, f_lastDatum, f_lastPlace, f_beatsUsed, f_frameCount, f_mode, f_currentNode, f_currentEnv, f_result, f_calls, f_inForce, f_exitTarget, f_exitValue, f_exitType, f_exitPlace, a_nodeOp, a_nodeA, a_nodeB, a_nodeParts, a_nodeSize, a_slotSize, a_slotParams, a_openLists, a_typeParent, a_elements, a_locals, upd a_specialValue (a - 8) v, upd a_specialHas (a - 8) 1, a_printed, upd (upd (upd a_frames (b + 10) (nI a)) (b + 11) (a_specialValue (a - 8))) (b + 12) (a_specialHas (a - 8)))) : wpX_bindSpecial P (f_openCount, f_typeCount, f_printedCount, f_depthLimit, f_fuelLimit, f_lastStatus, f_lastValue, f_lastError, f_lastDatum, f_lastPlace, f_beatsUsed, f_frameCount, f_mode, f_currentNode, f_currentEnv, f_result, f_calls, f_inForce, f_exitTarget, f_exitValue, f_exitType, f_exitPlace, a_nodeOp, a_nodeA, a_nodeB, a_nodeParts, a_nodeSize, a_slotSize, a_slotParams, a_openLists, a_typeParent, a_elements, a_locals, a_specialValue, a_specialHas, a_printed, a_frames) (nI b) (nI a) v := by
  have b1 : vp_nar .boolean 1 = 1 := by decide
  refine xx_w 10 (by omega) ?_
  rw [x_sub8 h8]
  refine ⟨vp_in_nI (by omega) (by decide), ?_⟩
  rw [nI_clamp (by omega)]
  refine xx_w 11 (by omega) ?_
  refine ⟨vp_in_nI (by omega) (by decide), ?_⟩
  have last : ∀ z : Int32, a_specialHas (a - 8) = z → wX_bindSpecial_53 P (nI a) v z (nI b + 12) f_openCount f_typeCount f_printedCount f_depthLimit f_fuelLimit f_lastStatus f_lastValue f_lastError f_lastDatum f_lastPlace f_beatsUsed f_frameCount f_mode f_currentNode f_currentEnv f_result f_calls f_inForce f_exitTarget f_exitValue f_exitType f_exitPlace a_nodeOp a_nodeA a_nodeB a_nodeParts a_nodeSize a_slotSize a_slotParams a_openLists a_typeParent a_elements a_locals a_specialValue a_specialHas a_printed (upd (upd a_frames (b + 10) (nI a)) (b + 11) (a_specialValue (a - 8))) := by
    intro z hz
    refine xx_w 12 (by omega) ?_
    rw [x_sub8 h8, nI_clamp (by omega), b1, ← hz]
    exact ⟨vp_in_nI (by omega) (by decide), nm_e ⟨vp_in_nI (by omega) (by decide), nm_e h⟩⟩
  rcases hsh with z | z
  · exact br_t z (last 0 z)
  · exact br_f (by rw [z]; decide) (last 1 z)
theorem x_sp01 {a b : Int32} {o : Option Int32} (h : x_sp a b o) : b = 0 ∨ b = 1 := by
  cases o with
  | none => exact Or.inl h
  | some x => exact Or.inr h.1
theorem xSp_b {gl : Nat → Option Int32} {f : Fr} {a : Nat} {v : Int32} (h8 : 8 ≤ a) (hb : fr_bv f = a) (hx : fr_bx f = v) (h : xSp sv sh gl r) : xSp (upd sv (a - 8) v) (upd sh (a - 8) 1) gl (f :: r) := by
  intro j hj
  by_cases e : j = a - 8
  · have ec : m_cur gl (8 + j) (f :: r) = some v := (if_pos (by rw [hb]; omega)).trans (by rw [hx])
    rw [ec, e, pk_us, pk_us]
    exact ⟨rfl, rfl⟩
  · have ec : m_cur gl (8 + j) (f :: r) = m_cur gl (8 + j) r := if_neg (by rw [hb]; omega)
    rw [ec, pk_un e, pk_un e]
    exact h j hj
end
end
section
/-! the class's side: the step of a delivered value -/
section
variable {g : mG} {V : Nat → Prop} {Z : Nat → Nat} {pa : Nat → Option Nat} {T : Nat} {f_openCount f_typeCount : Int32} {a_nodeOp a_nodeA a_nodeB a_nodeParts a_nodeSize a_slotSize a_slotParams a_openLists a_typeParent : Nat → Int32} {s : St} {n : Nat} {ca inf mo cn ce re et ex ey ep v : Int32} {sv sh fr : Nat → Int32} {l r : List Fr} {f : Fr} {P : SX → Prop} {post : Int32 → SX → Prop} {N i p q : Nat}
/-- the cells of a list whose part comes -/
def x_st (fr : Nat → Int32) (b gt : Nat) (v : Int32) : Nat → Int32 := if gt < 3 then upd fr (b + (5 + gt)) v else fr
theorem x_st_n {fr : Nat → Int32} {b gt c : Nat} {v : Int32} (hc : c < 5 ∨ 8 ≤ c) : x_st fr b gt v (b + c) = fr (b + c) := by
  unfold x_st
  split
  · exact up_n (by omega)
  · rfl
theorem x_st_v {fr : Nat → Int32} {b gt c : Nat} {v : Int32} (hc : c < 3) : x_st fr b gt v (b + (5 + c)) = if gt = c then v else fr (b + (5 + c)) := by
  unfold x_st
  by_cases e : gt = c
  · rw [if_pos (by omega), if_pos e, e]; exact up_s
  · rw [if_neg e]
    split
    · exact up_n (by omega)
    · rfl
theorem x_st_b {fr : Nat → Int32} {b gt j : Nat} {v : Int32} (hj : j < b) : x_st fr b gt v j = fr j := by
  unfold x_st
  split
  · exact pk_un (by omega)
  · rfl
theorem x_tk {f_openCount f_typeCount f_printedCount f_depthLimit f_fuelLimit f_lastStatus f_lastValue f_lastError f_lastDatum f_lastPlace f_beatsUsed f_frameCount f_mode f_currentNode f_currentEnv f_result f_calls f_inForce f_exitTarget f_exitValue f_exitType f_exitPlace : Int32} {a_nodeOp a_nodeA a_nodeB a_nodeParts a_nodeSize a_slotSize a_slotParams a_openLists a_typeParent a_elements a_locals a_specialValue a_specialHas a_printed a_frames : Nat → Int32} {P : SX → Prop} (b n k m gt : Nat) (hb : b + 17 ≤ 11900) (hn : n < 392) (h0 : a_frames (b + 0) = nI n) (h4 : a_frames (b + 4) = nI m) (hk : a_nodeParts n = nI k) (hg : gt + 1 + m = k) (hk2 : k < 1000) (h : wX_takePart_49 P (nI b) (nI n) f_openCount f_typeCount f_printedCount f_depthLimit f_fuelLimit f_lastStatus f_lastValue f_lastError f_lastDatum f_lastPlace f_beatsUsed f_frameCount f_mode f_currentNode f_currentEnv f_result f_calls f_inForce f_exitTarget f_exitValue f_exitType f_exitPlace a_nodeOp a_nodeA a_nodeB a_nodeParts a_nodeSize a_slotSize a_slotParams a_openLists a_typeParent a_elements a_locals a_specialValue a_specialHas a_printed (x_st a_frames b gt f_result)) : wpX_takePart P (f_openCount, f_typeCount, f_printedCount, f_depthLimit, f_fuelLimit, f_lastStatus, f_lastValue, f_lastError, f_lastDatum, f_lastPlace, f_beatsUsed, f_frameCount, f_mode, f_currentNode, f_currentEnv, f_result, f_calls, f_inForce, f_exitTarget, f_exitValue, f_exitType, f_exitPlace, a_nodeOp, a_nodeA, a_nodeB, a_nodeParts, a_nodeSize, a_slotSize, a_slotParams, a_openLists, a_typeParent, a_elements, a_locals, a_specialValue, a_specialHas, a_printed, a_frames) (nI b) := by
  refine xx_r 0 (by omega) ?_
  rw [h0]
  refine ⟨vp_in_nI hn (by decide), xx_i 4 (by omega), ?_⟩
  rw [xx_c 4 4 (by omega), nI_clamp (by omega), hk, h4, pk_sub (by omega), show k - m = gt + 1 from by omega, nI_pred]
  refine nm_e ?_
  refine br_f (nI_pos (by omega)) ?_
  by_cases e : gt < 3
  · refine br_f (nI_ge (b := 3) e (by decide)) (br_f (by decide) ?_)
    have eb : nI b + 5 + nI gt = nI (b + (5 + gt)) := by
      rw [show (5 : Int32) = nI 5 from rfl, nI_add, nI_add, Nat.add_assoc]
    rw [eb]
    refine ⟨vp_in_nI (by omega) (by decide), ?_⟩
    rw [nI_clamp (by omega)]
    unfold x_st at h
    rw [if_pos e] at h
    exact nm_e h
  · unfold x_st at h
    rw [if_neg e] at h
    exact br_t (nI_le (a := 3) (by omega) (by omega)) (br_t rfl h)
theorem fo_tks (o : Nat) (h : o ≤ 26) (h7 : o ≠ 7) (h11 : o ≠ 11) : o < 6 ∨ 15 < o ∨ o = 6 ∨ o = 8 ∨ o = 9 ∨ o = 10 ∨ o = 12 ∨ o = 13 ∨ o = 14 ∨ o = 15 := by omega
/-- a list in PARTS takes a value: v is not the 0 of a WHILE -/
theorem x_tkP (G : g_w g V Z pa T) (X : xG g V Z f_openCount f_typeCount a_nodeOp a_nodeA a_nodeB a_nodeParts a_nodeSize a_slotSize a_slotParams a_openLists a_typeParent) {nd ev gt bv ty sr : Nat} {rm : List Nat} {x0 x1 x2 la bx dt pl : Int32} {sc : List (Nat × Nat × Nat)} {tg : Option Nat} (F : w_f g V Z pa 1 ((nd, ev, 0, rm), (gt, x0, x1, x2), (la, bv, bx, ty), dt, sc, sr, tg, pl) r) (hl : r.length < 700) (h1 : xSp sv sh (sGl s) (((nd, ev, 0, rm), (gt, x0, x1, x2), (la, bv, bx, ty), dt, sc, sr, tg, pl) :: r)) (h2 : xL g fr (sGl s) (((nd, ev, 0, rm), (gt, x0, x1, x2), (la, bv, bx, ty), dt, sc, sr, tg, pl) :: r)) (hw : gO g nd = 10 → v = 0 → P (xU g f_openCount f_typeCount a_nodeOp a_nodeA a_nodeB a_nodeParts a_nodeSize a_slotSize a_slotParams a_openLists a_typeParent x_z0 s (r.length + 1) (nI (m_fc r)) (x_ix (m_ch g r)) 3 cn ce 0 et ex ey ep sv sh (x_st fr (17 * r.length) gt v))) (h : ¬ (gO g nd = 10 ∧ v = 0) → ∀ re' sv' sh' fr', xSp sv' sh' (sGl s) (m_take g ((nd, ev, 0, rm), (gt, x0, x1, x2), (la, bv, bx, ty), dt, sc, sr, tg, pl) v :: r) → xL g fr' (sGl s) (m_take g ((nd, ev, 0, rm), (gt, x0, x1, x2), (la, bv, bx, ty), dt, sc, sr, tg, pl) v :: r) → ((fr_ph (m_take g ((nd, ev, 0, rm), (gt, x0, x1, x2), (la, bv, bx, ty), dt, sc, sr, tg, pl) v) = 1 ∨ 5 ≤ fr_ph (m_take g ((nd, ev, 0, rm), (gt, x0, x1, x2), (la, bv, bx, ty), dt, sc, sr, tg, pl) v)) → fr_rm (m_take g ((nd, ev, 0, rm), (gt, x0, x1, x2), (la, bv, bx, ty), dt, sc, sr, tg, pl) v) = [] → gO g nd ≠ 10 → re' = fr_la (m_take g ((nd, ev, 0, rm), (gt, x0, x1, x2), (la, bv, bx, ty), dt, sc, sr, tg, pl) v)) → P (xU g f_openCount f_typeCount a_nodeOp a_nodeA a_nodeB a_nodeParts a_nodeSize a_slotSize a_slotParams a_openLists a_typeParent x_z0 s (r.length + 1) (nI (m_fc r)) (x_ix (m_ch g r)) 1 cn ce re' et ex ey ep sv' sh' fr')) : wpX_takePart P (xU g f_openCount f_typeCount a_nodeOp a_nodeA a_nodeB a_nodeParts a_nodeSize a_slotSize a_slotParams a_openLists a_typeParent x_z0 s (r.length + 1) (nI (m_fc r)) (x_ix (m_ch g r)) 1 cn ce v et ex ey ep sv sh fr) (nI (17 * r.length)) := by
  obtain ⟨f1, f2, f3, f4, f5, f6, f7, f8, f9, f10⟩ := F
  have f1 : V nd := f1
  have f2 : ev ≤ 5 := f2
  obtain ⟨n1, n2, n3, n4, n5, n6, n7, n8, n9, n10, n11⟩ := G.1 nd f1
  obtain ⟨y1, y2, y3, y4, y5, y6, y7, y8⟩ := X.1 nd f1
  have hK56 := (w_ks G (n := nd) f1).2.1
  have hnx := fun c cs (e : rm = c :: cs) => w_nxt G (nd := nd) (ev := ev) (ph := 0) (gt := gt) (bv := bv) (ty := ty) (sr := sr) (x0 := x0) (x1 := x1) (x2 := x2) (la := la) (bx := bx) (dt := dt) (pl := pl) (sc := sc) (tg := tg) (w := 1) (c := c) (cs := cs) f1 (by rw [← e]; exact f3)
  have f3 : (gO g nd ≤ 26 ∧ gO g nd ≠ 7 ∧ gO g nd ≠ 11 ∧ ¬ (16 ≤ gO g nd ∧ gO g nd ≤ 18) ∧ rm = (gK g nd).drop (gt + 1) ∧ gt + 1 ≤ (gK g nd).length ∧ (gO g nd = 6 ∨ gO g nd = 9 ∨ gO g nd = 10 ∨ gO g nd = 13 ∨ gO g nd = 15 → gt = 0)) := by
    rcases f3 with h | h | h | h | h | h | h | h | h | h
    · exact h.2
    all_goals omega
  obtain ⟨k1, k2, k3, k4, k5, k6, k7⟩ := f3
  have hb : bv = 0 := by
    rcases f4 with z | ⟨_, _, z⟩
    · exact z
    · rcases z with ⟨z, _⟩ | z | z <;> cases z
  subst hb
  have hrl : gt + 1 + rm.length = (gK g nd).length := by
    rw [k5, List.length_drop]; omega
  obtain ⟨⟨c0, c1, c2, c3, c4, c5, c6, c7, c8, c9, c10, c11, c12, c13⟩, hL⟩ := h2
  have hbb : 17 * r.length + 17 ≤ 11900 := by omega
  have e : m_take g ((nd, ev, 0, rm), (gt, x0, x1, x2), (la, 0, bx, ty), dt, sc, sr, tg, pl) v = (if gO g nd = 6 then ((nd, ev, 1, [(gK g nd).getD (if v = 0 then 2 else 1) 0]), (gt + 1, v, x1, x2), (0, 0, bx, ty), dt, sc, sr, tg, pl)
      else if gO g nd = 10 then ((nd, ev, 1, rm), (gt + 1, x0, x1, x2), (0, 0, bx, ty), dt, sc, sr, tg, pl)
      else if gO g nd = 9 then ((nd, ev, 1, rm), (gt + 1, v, x1, x2), (0, gA g nd, v, ty), dt, sc, sr, tg, pl)
      else if gO g nd = 13 then ((nd, ev, 1, rm), (gt + 1, v, x1, x2), (0, 0, bx, ty), dt, sc, sr, tg, pl)
      else if gO g nd = 15 then ((nd, ev, 2, rm), (gt + 1, v, x1, x2), (la, 0, bx, ty), dt, sc, sr, tg, pl)
      else ((nd, ev, 0, rm), (gt + 1, (if gt = 0 then v else x0), (if gt = 1 then v else x1), (if gt = 2 then v else x2)), (la, 0, bx, ty), dt, sc, sr, tg, pl)) := rfl
  rw [e] at h
  refine x_tk (17 * r.length) nd (gK g nd).length rm.length gt hbb n4 c0 c4 y2 hrl (by omega) ?_
  have q0 : x_st fr (17 * r.length) gt v (17 * r.length + 0) = nI nd := (x_st_n (by omega)).trans c0
  have q1 : x_st fr (17 * r.length) gt v (17 * r.length + 1) = nI ev := (x_st_n (by omega)).trans c1
  have q2 : x_st fr (17 * r.length) gt v (17 * r.length + 2) = nI 0 := (x_st_n (by omega)).trans c2
  have q3 : ∀ c cs, rm = c :: cs → x_st fr (17 * r.length) gt v (17 * r.length + 3) = nI c := fun c cs z => (x_st_n (by omega)).trans (c3 c cs z)
  have q4 : x_st fr (17 * r.length) gt v (17 * r.length + 4) = nI rm.length := (x_st_n (by omega)).trans c4
  have q5 : x_st fr (17 * r.length) gt v (17 * r.length + 5) = if gt = 0 then v else fr (17 * r.length + 5) := x_st_v (c := 0) (by decide)
  have q6 : x_st fr (17 * r.length) gt v (17 * r.length + 6) = if gt = 1 then v else fr (17 * r.length + 6) := x_st_v (c := 1) (by decide)
  have q7 : x_st fr (17 * r.length) gt v (17 * r.length + 7) = if gt = 2 then v else fr (17 * r.length + 7) := x_st_v (c := 2) (by decide)
  have q8 : x_st fr (17 * r.length) gt v (17 * r.length + 8) = x_ix (m_ch g r) := (x_st_n (by omega)).trans c8
  have q9 : x_st fr (17 * r.length) gt v (17 * r.length + 9) = nI (m_fc r) := (x_st_n (by omega)).trans c9
  have q10 : x_st fr (17 * r.length) gt v (17 * r.length + 10) = nI 0 := (x_st_n (by omega)).trans c10
  have qb : ∀ j, j < 17 * r.length → x_st fr (17 * r.length) gt v j = fr j := fun j hj => x_st_b hj
  have h1' := xSp_d rfl h1
  generalize x_st fr (17 * r.length) gt v = fn at q0 q1 q2 q3 q4 q5 q6 q7 q8 q9 q10 qb hw ⊢
  have plain : gO g nd ≠ 6 → gO g nd ≠ 10 → gO g nd ≠ 9 → gO g nd ≠ 13 → gO g nd ≠ 15 → P (xU g f_openCount f_typeCount a_nodeOp a_nodeA a_nodeB a_nodeParts a_nodeSize a_slotSize a_slotParams a_openLists a_typeParent x_z0 s (r.length + 1) (nI (m_fc r)) (x_ix (m_ch g r)) 1 cn ce v et ex ey ep sv sh fn) := by
    intro o6 o10 o9 o13 o15
    rw [if_neg o6, if_neg o10, if_neg o9, if_neg o13, if_neg o15] at h
    refine h (fun z => o10 z.1) v sv sh fn (xSp_c rfl h1') ⟨⟨q0, q1, q2, q3, q4, fun _ _ => ?_, fun _ z => ?_, fun _ z => ?_, q8, q9, q10, fun z => absurd rfl z, fun z => ?_, fun z => ?_⟩, xL_keep hL qb⟩ (fun z => ?_)
    · rw [q5]
      by_cases z : gt = 0
      · rw [if_pos z, if_pos z]
      · rw [if_neg z, if_neg z]; exact c5 (Or.inl rfl) (by omega)
    · rw [q6]
      by_cases z : gt = 1
      · rw [if_pos z, if_pos z]
      · rw [if_neg z, if_neg z]; exact c6 rfl (by omega)
    · rw [q7]
      by_cases z : gt = 2
      · rw [if_pos z, if_pos z]
      · rw [if_neg z, if_neg z]; exact c7 rfl (by omega)
    · rcases z with z | z <;> cases z
    · cases z
    · rcases z with z | z
      · cases z
      · exact absurd z (by show ¬ 5 ≤ 0; decide)
  have enter : ∀ {x0' : Int32}, (gO g nd = 10 ∨ gO g nd = 13) → (gO g nd = 13 → gt = 0 ∧ x0' = v) → xL g (upd fn (17 * r.length + 2) 1) (sGl s) (((nd, ev, 1, rm), (gt + 1, x0', x1, x2), (0, 0, bx, ty), dt, sc, sr, tg, pl) :: r) := by
    intro x0' o o13
    refine ⟨⟨?_, ?_, ?_, ?_, ?_, ?_, ?_, ?_, ?_, ?_, ?_, ?_, ?_, ?_⟩, xL_keep hL ?_⟩
    · simp (disch := decide) only [up_n, up_s]; exact q0
    · simp (disch := decide) only [up_n, up_s]; exact q1
    · simp (disch := decide) only [up_n, up_s]; rfl
    · simp (disch := decide) only [up_n, up_s]; exact q3
    · simp (disch := decide) only [up_n, up_s]; exact q4
    · simp (disch := decide) only [up_n, up_s]
      intro z _
      rcases z with z | z | ⟨_, z⟩
      · cases z
      · cases z
      · obtain ⟨z1, z2⟩ := o13 z
        rw [q5, if_pos z1, z2]
    · intro z; cases z
    · intro z; cases z
    · simp (disch := decide) only [up_n, up_s]; exact q8
    · simp (disch := decide) only [up_n, up_s]; exact q9
    · simp (disch := decide) only [up_n, up_s]; exact q10
    · intro z; exact absurd rfl z
    · intro z; rcases z with z | z <;> cases z
    · intro z; cases z
    · intro j hj
      rw [pk_un (by omega)]; exact qb j hj
  refine xx_n n4 ?_
  rw [y1]
  rcases fo_tks (gO g nd) k1 k2 k3 with o | o | o | o | o | o | o | o | o | o
  · exact br_t (nI_lt (b := 6) o (by decide)) (plain (by omega) (by omega) (by omega) (by omega) (by omega))
  · exact br_f (nI_nlt (b := 6) (by omega) (by omega)) (br_t (nI_lt (a := 15) o (by omega)) (plain (by omega) (by omega) (by omega) (by omega) (by omega)))
  · rw [o]
    repeat first | refine br_t (by decide) ?_ | refine br_f (by decide) ?_
    rw [if_pos o] at h
    have hg0 := k7 (Or.inl o)
    subst hg0
    have hl3 := fo_lst (k := 3) (G.1 nd f1) (by omega) (by rw [o]; rfl)
    obtain ⟨k0, b, c, rest, hK⟩ : ∃ a b c t, gK g nd = a :: b :: c :: t := by
      match hK : gK g nd with
      | [] => rw [hK] at hl3; exact absurd hl3 (by decide)
      | [_] => rw [hK] at hl3; exact absurd hl3 (by simp)
      | [_, _] => rw [hK] at hl3; exact absurd hl3 (by simp)
      | a :: b :: c :: t => exact ⟨a, b, c, t, rfl⟩
    have hrm : rm = b :: c :: rest := by rw [k5, hK]; rfl
    have hVb : V b := (n5 b (by rw [hK]; simp)).1
    have hc : c = b + Z b := hnx b (c :: rest) hrm c rest rfl
    have last : ∀ d j fm, (if v = 0 then 2 else 1) = j → (gK g nd).getD j 0 = d → fm (17 * r.length + 3) = nI d → (∀ k, k ≠ 3 → k ≠ 4 → fm (17 * r.length + k) = fn (17 * r.length + k)) → (∀ j, j < 17 * r.length → fm j = fn j) → wX_chooseBranch_12 P (nI (17 * r.length)) f_openCount f_typeCount (nI (sPr s)) (nI (gD g)) (nI (gF g)) (x_z0.1) (x_z0.2.1) (x_z0.2.2.1) (x_z0.2.2.2.1) (x_z0.2.2.2.2) (nI (sBe s)) (nI (r.length + 1)) 1 cn ce v (nI (m_fc r)) (x_ix (m_ch g r)) et ex ey ep a_nodeOp a_nodeA a_nodeB a_nodeParts a_nodeSize a_slotSize a_slotParams a_openLists a_typeParent (sCe s) (sLo s) sv sh (sOu s) fm := by
      intro d j fm hj hd m3 mk mb
      rw [hj, hd] at h
      refine xx_w 4 (by omega) ?_
      refine xx_w 2 (by omega) ?_
      refine h (fun z => by omega) v sv sh (upd (upd fm (17 * r.length + 4) 1) (17 * r.length + 2) 1) (xSp_c rfl h1') ⟨⟨?_, ?_, ?_, ?_, ?_, ?_, ?_, ?_, ?_, ?_, ?_, ?_, ?_, ?_⟩, xL_keep hL ?_⟩ (fun _ z => (by cases z))
      · simp (disch := decide) only [up_n, up_s]; rw [mk 0 (by decide) (by decide)]; exact q0
      · simp (disch := decide) only [up_n, up_s]; rw [mk 1 (by decide) (by decide)]; exact q1
      · simp (disch := decide) only [up_n, up_s]; rfl
      · intro c' cs' z
        injection z with z1 z2
        simp (disch := decide) only [up_n, up_s]
        rw [m3, z1]
      · simp (disch := decide) only [up_n, up_s]; rfl
      · intro z
        rcases z with z | z | ⟨_, z⟩
        · cases z
        · cases z
        · have z : gO g nd = 13 := z
          omega
      · intro z; cases z
      · intro z; cases z
      · simp (disch := decide) only [up_n, up_s]; rw [mk 8 (by decide) (by decide)]; exact q8
      · simp (disch := decide) only [up_n, up_s]; rw [mk 9 (by decide) (by decide)]; exact q9
      · simp (disch := decide) only [up_n, up_s]; rw [mk 10 (by decide) (by decide)]; exact q10
      · intro z; exact absurd rfl z
      · intro z; rcases z with z | z <;> cases z
      · intro z; cases z
      · intro j hj
        rw [pk_un (by omega), pk_un (by omega), mb j hj]; exact qb j hj
    refine fb_if Iff.rfl (fun z => ?_) (fun z => ?_)
    · refine x_skip (17 * r.length) b (rest.length + 1) (Z b) hbb (G.1 b hVb).2.2.2.1 (q3 b _ hrm) (X.1 b hVb).2.2.1 (by rw [q4, hrm]; rfl) ?_
      refine last c 2 _ (if_pos z) (by rw [hK]; rfl) ?_ ?_ ?_
      · simp (disch := decide) only [up_n, up_s]; rw [hc]
      · intro k z3 z4
        rw [up_n z4, up_n z3]
      · intro j hj
        rw [pk_un (by omega), pk_un (by omega)]
    · exact last b 1 fn (if_neg z) (by rw [hK]; rfl) (q3 b _ hrm) (fun _ _ _ => rfl) (fun _ _ => rfl)
  · rw [o]
    repeat first | refine br_t (by decide) ?_ | refine br_f (by decide) ?_
    exact plain (by omega) (by omega) (by omega) (by omega) (by omega)
  · rw [o]
    repeat first | refine br_t (by decide) ?_ | refine br_f (by decide) ?_
    rw [if_neg (by omega), if_neg (by omega), if_pos o] at h
    have ha := (n9 (by omega)).2.1 (Or.inl o)
    refine ⟨vp_in_nI n4 (by decide), ?_⟩
    rw [nI_clamp (by omega), y5 (Or.inr (by unfold fo_ma; omega))]
    have hsp := h1' (gA g nd - 8) (by omega)
    rw [show 8 + (gA g nd - 8) = gA g nd from by omega] at hsp
    refine x_bind (17 * r.length) (gA g nd) hbb ha.1 ha.2 (x_sp01 hsp) ?_
    refine x_body _ hbb ?_
    refine h (fun z => by omega) 0 _ _ (upd (upd (upd (upd fn (17 * r.length + 10) (nI (gA g nd))) (17 * r.length + 11) (sv (gA g nd - 8))) (17 * r.length + 12) (sh (gA g nd - 8))) (17 * r.length + 2) 1) (xSp_b ha.1 rfl rfl h1') ⟨⟨?_, ?_, ?_, ?_, ?_, ?_, ?_, ?_, ?_, ?_, ?_, ?_, ?_, ?_⟩, xL_keep hL ?_⟩ (fun _ _ _ => rfl)
    · simp (disch := decide) only [up_n, up_s]; exact q0
    · simp (disch := decide) only [up_n, up_s]; exact q1
    · simp (disch := decide) only [up_n, up_s]; rfl
    · simp (disch := decide) only [up_n, up_s]; exact q3
    · simp (disch := decide) only [up_n, up_s]; exact q4
    · intro z
      rcases z with z | z | ⟨_, z⟩
      · cases z
      · cases z
      · have z : gO g nd = 13 := z
        omega
    · intro z; cases z
    · intro z; cases z
    · simp (disch := decide) only [up_n, up_s]; exact q8
    · simp (disch := decide) only [up_n, up_s]; exact q9
    · simp (disch := decide) only [up_n, up_s]
    · simp (disch := decide) only [up_n, up_s]; intro _; exact hsp
    · intro z; rcases z with z | z <;> cases z
    · intro z; cases z
    · intro j hj
      rw [pk_un (by omega), pk_un (by omega), pk_un (by omega), pk_un (by omega)]; exact qb j hj
  · rw [o]
    repeat first | refine br_t (by decide) ?_ | refine br_f (by decide) ?_
    rw [if_neg (by omega), if_pos o] at h
    refine fb_if Iff.rfl (fun z => ?_) (fun z => ?_)
    · exact hw o z
    · refine x_body _ hbb ?_
      exact h (fun y => z y.2) 0 sv sh (upd fn (17 * r.length + 2) 1) (xSp_c rfl h1') (enter (Or.inl o) (fun z => by omega)) (fun _ _ _ => rfl)
  · rw [o]
    repeat first | refine br_t (by decide) ?_ | refine br_f (by decide) ?_
    exact plain (by omega) (by omega) (by omega) (by omega) (by omega)
  · rw [o]
    repeat first | refine br_t (by decide) ?_ | refine br_f (by decide) ?_
    rw [if_neg (by omega), if_neg (by omega), if_neg (by omega), if_pos o] at h
    refine x_body _ hbb ?_
    exact h (fun y => by omega) 0 sv sh (upd fn (17 * r.length + 2) 1) (xSp_c rfl h1') (enter (Or.inr o) (fun _ => ⟨k7 (by omega), rfl⟩)) (fun _ _ _ => rfl)
  · rw [o]
    repeat first | refine br_t (by decide) ?_ | refine br_f (by decide) ?_
    exact plain (by omega) (by omega) (by omega) (by omega) (by omega)
  · rw [o]
    repeat first | refine br_t (by decide) ?_ | refine br_f (by decide) ?_
    rw [if_neg (by omega), if_neg (by omega), if_neg (by omega), if_neg (by omega), if_pos o] at h
    have hg0 := k7 (by omega)
    refine xx_w 2 (by omega) ?_
    refine h (fun y => by omega) v sv sh (upd fn (17 * r.length + 2) 2) (xSp_c rfl h1') ⟨⟨?_, ?_, ?_, ?_, ?_, ?_, ?_, ?_, ?_, ?_, ?_, ?_, ?_, ?_⟩, xL_keep hL ?_⟩ (fun z => ?_)
    · simp (disch := decide) only [up_n, up_s]; exact q0
    · simp (disch := decide) only [up_n, up_s]; exact q1
    · simp (disch := decide) only [up_n, up_s]; rfl
    · simp (disch := decide) only [up_n, up_s]; exact q3
    · simp (disch := decide) only [up_n, up_s]; exact q4
    · simp (disch := decide) only [up_n, up_s]
      intro _ _
      rw [q5, if_pos hg0]
    · intro z; cases z
    · intro z; cases z
    · simp (disch := decide) only [up_n, up_s]; exact q8
    · simp (disch := decide) only [up_n, up_s]; exact q9
    · simp (disch := decide) only [up_n, up_s]; exact q10
    · intro z; exact absurd rfl z
    · intro z; rcases z with z | z <;> cases z
    · intro z; cases z
    · intro j hj
      rw [pk_un (by omega)]; exact qb j hj
    · rcases z with z | z
      · cases z
      · exact absurd z (by show ¬ 5 ≤ 2; decide)
end
end
section
/-! the class's side: searching, leaving -/
section
variable {g : mG} {V : Nat → Prop} {Z : Nat → Nat} {pa : Nat → Option Nat} {T : Nat} {f_openCount f_typeCount : Int32} {a_nodeOp a_nodeA a_nodeB a_nodeParts a_nodeSize a_slotSize a_slotParams a_openLists a_typeParent : Nat → Int32} {s : St} {n : Nat} {ca inf mo cn ce re et ex ey ep v : Int32} {sv sh fr : Nat → Int32} {l r : List Fr} {f : Fr} {P : SX → Prop} {post : Int32 → SX → Prop} {N i p q : Nat}
theorem m_take_nd {f : Fr} {v : Int32} : fr_nd (m_take g f v) = fr_nd f := by
  obtain ⟨⟨nd, ev, ph, rm⟩, ⟨gt, x0, x1, x2⟩, ⟨la, bv, bx, ty⟩, dt, sc, sr, tg, pl⟩ := f
  by_cases p0 : ph = 0
  · subst p0
    show fr_nd (if gO g nd = 6 then ((nd, ev, 1, [(gK g nd).getD (if v = 0 then 2 else 1) 0]), (gt + 1, v, x1, x2), (0, bv, bx, ty), dt, sc, sr, tg, pl)
      else if gO g nd = 10 then ((nd, ev, 1, rm), (gt + 1, x0, x1, x2), (0, bv, bx, ty), dt, sc, sr, tg, pl)
      else if gO g nd = 9 then ((nd, ev, 1, rm), (gt + 1, v, x1, x2), (0, gA g nd, v, ty), dt, sc, sr, tg, pl)
      else if gO g nd = 13 then ((nd, ev, 1, rm), (gt + 1, v, x1, x2), (0, bv, bx, ty), dt, sc, sr, tg, pl)
      else if gO g nd = 15 then ((nd, ev, 2, rm), (gt + 1, v, x1, x2), (la, bv, bx, ty), dt, sc, sr, tg, pl)
      else ((nd, ev, 0, rm), (gt + 1, (if gt = 0 then v else x0), (if gt = 1 then v else x1), (if gt = 2 then v else x2)), (la, bv, bx, ty), dt, sc, sr, tg, pl)) = nd
    split
    · rfl
    · split
      · rfl
      · split
        · rfl
        · split
          · rfl
          · split <;> rfl
  · cases ph with
    | zero => exact absurd rfl p0
    | succ k => rfl
theorem w_take_ch {f : Fr} {r : List Fr} {v : Int32} (F : w_f g V Z pa 1 f r) : m_ch g (m_take g f v :: r) = m_ch g (f :: r) := by
  obtain ⟨⟨nd, ev, ph, rm⟩, ⟨gt, x0, x1, x2⟩, ⟨la, bv, bx, ty⟩, dt, sc, sr, tg, pl⟩ := f
  by_cases p0 : ph = 0
  · subst p0
    have hO : ¬ (16 ≤ gO g nd ∧ gO g nd ≤ 18) := by
      obtain ⟨_, _, f3, _⟩ := F
      rcases f3 with h | h | h | h | h | h | h | h | h | h
      · exact h.2.2.2.2.1
      all_goals omega
    have k : ∀ f' : Fr, fr_nd f' = nd → fr_ph f' ≠ 7 → m_ch g (f' :: r) = m_ch g r := fun f' e1 e2 => (if_neg e2).trans (if_neg (by rw [e1]; omega))
    refine (k _ m_take_nd ?_).trans rfl
    show fr_ph (if gO g nd = 6 then ((nd, ev, 1, [(gK g nd).getD (if v = 0 then 2 else 1) 0]), (gt + 1, v, x1, x2), (0, bv, bx, ty), dt, sc, sr, tg, pl)
      else if gO g nd = 10 then ((nd, ev, 1, rm), (gt + 1, x0, x1, x2), (0, bv, bx, ty), dt, sc, sr, tg, pl)
      else if gO g nd = 9 then ((nd, ev, 1, rm), (gt + 1, v, x1, x2), (0, gA g nd, v, ty), dt, sc, sr, tg, pl)
      else if gO g nd = 13 then ((nd, ev, 1, rm), (gt + 1, v, x1, x2), (0, bv, bx, ty), dt, sc, sr, tg, pl)
      else if gO g nd = 15 then ((nd, ev, 2, rm), (gt + 1, v, x1, x2), (la, bv, bx, ty), dt, sc, sr, tg, pl)
      else ((nd, ev, 0, rm), (gt + 1, (if gt = 0 then v else x0), (if gt = 1 then v else x1), (if gt = 2 then v else x2)), (la, bv, bx, ty), dt, sc, sr, tg, pl)) ≠ 7
    split
    · show (1 : Nat) ≠ 7; decide
    · split
      · show (1 : Nat) ≠ 7; decide
      · split
        · show (1 : Nat) ≠ 7; decide
        · split
          · show (1 : Nat) ≠ 7; decide
          · split
            · show (2 : Nat) ≠ 7; decide
            · show (0 : Nat) ≠ 7; decide
  · cases ph with
    | zero => exact absurd rfl p0
    | succ k => rfl
theorem x_takeR (G : g_w g V Z pa T) (X : xG g V Z f_openCount f_typeCount a_nodeOp a_nodeA a_nodeB a_nodeParts a_nodeSize a_slotSize a_slotParams a_openLists a_typeParent) {nd ev ph gt bv ty sr : Nat} {rm : List Nat} {x0 x1 x2 la bx dt pl : Int32} {sc : List (Nat × Nat × Nat)} {tg : Option Nat} (F : w_f g V Z pa 1 ((nd, ev, ph, rm), (gt, x0, x1, x2), (la, bv, bx, ty), dt, sc, sr, tg, pl) r) (W : w_l g V Z pa 1 r) (hfr : m_fc r ≤ gD g) (hl : r.length < 700) (hs : w_s g s) (hpr : sPr s < 1000000) (h1 : xSp sv sh (sGl s) (((nd, ev, ph, rm), (gt, x0, x1, x2), (la, bv, bx, ty), dt, sc, sr, tg, pl) :: r)) (h2 : xL g fr (sGl s) (((nd, ev, ph, rm), (gt, x0, x1, x2), (la, bv, bx, ty), dt, sc, sr, tg, pl) :: r)) (hi : i + 8 < 10000000) (H : ∀ p q, p + q = 8 → ∀ u', px_R g f_openCount f_typeCount a_nodeOp a_nodeA a_nodeB a_nodeParts a_nodeSize a_slotSize a_slotParams a_openLists a_typeParent (m_step g (1, v, none, 0, 0, ((nd, ev, ph, rm), (gt, x0, x1, x2), (la, bv, bx, ty), dt, sc, sr, tg, pl) :: r, s)) u' → xR post (N + p) (i + q) u') : xR post (N + 8) i (xU g f_openCount f_typeCount a_nodeOp a_nodeA a_nodeB a_nodeParts a_nodeSize a_slotSize a_slotParams a_openLists a_typeParent x_z0 s (r.length + 1) (nI (m_fc (((nd, ev, ph, rm), (gt, x0, x1, x2), (la, bv, bx, ty), dt, sc, sr, tg, pl) :: r))) (x_ix (m_ch g (((nd, ev, ph, rm), (gt, x0, x1, x2), (la, bv, bx, ty), dt, sc, sr, tg, pl) :: r))) 4 cn ce v et ex ey ep sv sh fr) := by
  have h2' := h2
  obtain ⟨⟨c0, c1, c2, c3, c4, c5, c6, c7, c8, c9, c10, c11, c12, c13⟩, hL⟩ := h2'
  have hph : ph < 9 := by
    obtain ⟨_, _, f3, _⟩ := F
    rcases f3 with h | h | h | h | h | h | h | h | h | h <;> omega
  have hbb : 17 * r.length + 17 ≤ 11900 := by omega
  have hst : m_step g (1, v, none, 0, 0, ((nd, ev, ph, rm), (gt, x0, x1, x2), (la, bv, bx, ty), dt, sc, sr, tg, pl) :: r, s) = (if ph = 4 ∨ ph = 8 then (2, 0, none, 0, 0, ((nd, ev, ph, rm), (gt, x0, x1, x2), (la, bv, bx, ty), dt, sc, sr, tg, pl) :: r, s)
    else if ph = 0 ∧ gO g nd = 10 ∧ v = 0 then m_dlv r 0 s
    else m_pro g (m_take g ((nd, ev, ph, rm), (gt, x0, x1, x2), (la, bv, bx, ty), dt, sc, sr, tg, pl) v) r s) := rfl
  rw [hst] at H
  refine x_go (N := N + 7) (by omega) (show ¬ (4 : Int32) = 7 by decide) ?_
  refine br_f (by decide) (br_f (by decide) (br_f (by decide) (br_f (by decide) (br_f (by decide) (br_f (by decide) (br_t rfl ?_))))))
  unfold wpX_takeResult
  dsimp only
  refine x_top r.length ?_
  refine xx_r 2 (by omega) ?_
  rw [c2]
  by_cases p0 : ph = 0
  · subst p0
    rw [if_neg (by omega)] at H
    refine br_t rfl ?_
    refine x_tkP G X F hl h1 h2 (fun o z => ?_) (fun z re' sv' sh' fr' h1' h2' hla' => ?_)
    · rw [if_pos ⟨rfl, o, z⟩] at H
      have hg0 : gt = 0 := by
        obtain ⟨_, _, f3, _⟩ := F
        rcases f3 with h | h | h | h | h | h | h | h | h | h
        · exact h.2.2.2.2.2.2.2 (by omega)
        all_goals omega
      refine x_finR (p := 6) (q := 1) (f := ((nd, ev, 0, rm), (gt, x0, x1, x2), (la, bv, bx, ty), dt, sc, sr, tg, pl)) (sv := sv) (sh := sh) (fr := x_st fr (17 * r.length) gt v) h1 ⟨⟨(x_st_n (by omega)).trans c0, (x_st_n (by omega)).trans c1, (x_st_n (by omega)).trans c2, fun c cs y => (x_st_n (by omega)).trans (c3 c cs y), (x_st_n (by omega)).trans c4, fun _ y => absurd y (by omega), fun _ y => absurd y (by omega), fun _ y => absurd y (by omega), (x_st_n (by omega)).trans c8, (x_st_n (by omega)).trans c9, (x_st_n (by omega)).trans c10, fun y => ?_, fun y => (by rcases y with y | y <;> cases y), fun y => (by cases y)⟩, xL_keep hL (fun j hj => x_st_b hj)⟩ (w_bdv F.2.2.2.1) hl hi rfl H
      rw [x_st_n (by omega), x_st_n (by omega)]
      exact c11 y
    · rw [if_neg (fun y => z y.2)] at H
      obtain ⟨d1, d2, d3, d4, d5⟩ := w_take (v := v) G F (by show (0 : Nat) ≠ 4; decide) (by show (0 : Nat) ≠ 8; decide)
      have d6 := w_take_ch (v := v) F
      have d7 : m_ch g (((nd, ev, 0, rm), (gt, x0, x1, x2), (la, bv, bx, ty), dt, sc, sr, tg, pl) :: r) = m_ch g r := rfl
      have d8 : m_fc (((nd, ev, 0, rm), (gt, x0, x1, x2), (la, bv, bx, ty), dt, sc, sr, tg, pl) :: r) = m_fc r := rfl
      rw [d7] at d6
      rw [d8] at d4
      have e9 : fr_nd (m_take g ((nd, ev, 0, rm), (gt, x0, x1, x2), (la, bv, bx, ty), dt, sc, sr, tg, pl) v) = nd := m_take_nd
      rw [← d4, ← d6]
      have hla2 : (fr_ph (m_take g ((nd, ev, 0, rm), (gt, x0, x1, x2), (la, bv, bx, ty), dt, sc, sr, tg, pl) v) = 1 ∨ 5 ≤ fr_ph (m_take g ((nd, ev, 0, rm), (gt, x0, x1, x2), (la, bv, bx, ty), dt, sc, sr, tg, pl) v)) → fr_rm (m_take g ((nd, ev, 0, rm), (gt, x0, x1, x2), (la, bv, bx, ty), dt, sc, sr, tg, pl) v) = [] → gO g (fr_nd (m_take g ((nd, ev, 0, rm), (gt, x0, x1, x2), (la, bv, bx, ty), dt, sc, sr, tg, pl) v)) ≠ 10 → re' = fr_la (m_take g ((nd, ev, 0, rm), (gt, x0, x1, x2), (la, bv, bx, ty), dt, sc, sr, tg, pl) v) := fun a b c => hla' a b (by rw [e9] at c; exact c)
      generalize m_take g ((nd, ev, 0, rm), (gt, x0, x1, x2), (la, bv, bx, ty), dt, sc, sr, tg, pl) v = f' at d1 d2 d3 h1' h2' hla2 H ⊢
      obtain ⟨⟨nd', ev', ph', rm'⟩, ⟨gt', x0', x1', x2'⟩, ⟨la', bv', bx', ty'⟩, dt', sc', sr', tg', pl'⟩ := f'
      exact x_proR (p := 3) (q := 1) (re := re') (sv := sv') (sh := sh') (fr := fr') G X d1 W d2 d3 hfr hl hs hpr h1' h2' hla2 hi rfl H
  · have e : m_take g ((nd, ev, ph, rm), (gt, x0, x1, x2), (la, bv, bx, ty), dt, sc, sr, tg, pl) v = ((nd, ev, ph, rm), (gt + 1, x0, x1, x2), (v, bv, bx, ty), dt, sc, sr, tg, pl) := by
      cases ph with
      | zero => exact absurd rfl p0
      | succ k => rfl
    by_cases p4 : ph = 4 ∨ ph = 8
    · rw [if_pos p4] at H
      have e4 : nI (if ph = 8 then 4 else ph) = 4 := by
        rcases p4 with z | z
        · subst z; rfl
        · subst z; rfl
      rw [e4]
      refine br_f (by decide) (br_t rfl ?_)
      refine H 7 1 rfl _ ?_
      exact ⟨cn, ce, v, et, ex, ey, ep, sv, sh, fr, h1, h2, fun z => (by cases z), fun z => (by cases z), fun z => (by cases z), rfl⟩
    · rw [if_neg p4, if_neg (fun z => p0 z.1), e] at H
      rw [if_neg (by omega)]
      refine br_f (xx_ne (b := 0) p0 (by omega) (by decide)) (br_f (xx_ne (b := 4) (by omega) (by omega) (by decide)) ?_)
      obtain ⟨d1, d2, d3, d4, d5⟩ := w_take (v := v) G F (fun z => p4 (Or.inl z)) (fun z => p4 (Or.inr z))
      rw [e] at d1
      refine x_proR (gt := gt + 1) (la := v) (p := 3) (q := 1) G X d1 W (fun z => p4 (Or.inl z)) (fun z => p4 (Or.inr z)) hfr hl hs hpr h1 ⟨⟨c0, c1, c2, c3, c4, ?_, ?_, ?_, c8, c9, c10, c11, c12, c13⟩, hL⟩ (fun _ _ _ => rfl) hi rfl H
      · intro z _
        refine c5 z ?_
        obtain ⟨_, _, f3, _⟩ := F
        rcases f3 with h | h | h | h | h | h | h | h | h | h
        · omega
        · omega
        · omega
        · exact h.2.2.2.2 (by omega)
        · exact h.2.2.1
        all_goals omega
      · intro z; exact absurd z p0
      · intro z; exact absurd z p0
end
end
section
/-! the class's side: searching for a clause -/
theorem x_isa5 {f_openCount f_typeCount f_printedCount f_depthLimit f_fuelLimit f_lastStatus f_lastValue f_lastError f_lastDatum f_lastPlace f_beatsUsed f_frameCount f_mode f_currentNode f_currentEnv f_result f_calls f_inForce f_exitTarget f_exitValue f_exitType f_exitPlace : Int32} {a_nodeOp a_nodeA a_nodeB a_nodeParts a_nodeSize a_slotSize a_slotParams a_openLists a_typeParent a_elements a_locals a_specialValue a_specialHas a_printed a_frames : Nat → Int32} {Q : Int32 → Prop} {pt : Nat → Nat} (hp : ∀ t, t < 16 → a_typeParent t = nI (pt t) ∧ (1 ≤ t → pt t < t)) (a : Nat) (ha2 : a ≤ 15) : ∀ (k t i n : Nat), i + k = 16 → t + i ≤ 15 → k < n → Q (if fo_ia pt k t a = true then 1 else 0) → wX_isA_5 Q (nI a) f_openCount f_typeCount f_printedCount f_depthLimit f_fuelLimit f_lastStatus f_lastValue f_lastError f_lastDatum f_lastPlace f_beatsUsed f_frameCount f_mode f_currentNode f_currentEnv f_result f_calls f_inForce f_exitTarget f_exitValue f_exitType f_exitPlace a_nodeOp a_nodeA a_nodeB a_nodeParts a_nodeSize a_slotSize a_slotParams a_openLists a_typeParent a_elements a_locals a_specialValue a_specialHas a_printed a_frames n (nI t) (nI i)
  | _, _, _, 0, _, _, hn, _ => by omega
  | 0, t, i, n + 1, hk, ht, hn, h => by omega
  | k + 1, t, i, n + 1, hk, ht, hn, h => by
    have e : fo_ia pt (k + 1) t a = if t = a then true else if t ≤ a then false else fo_ia pt k (pt t) a := rfl
    rw [e] at h
    rw [wX_isA_5]
    refine br_f (nI_ge (b := 16) (by omega) (by decide)) ?_
    refine fb_if (nI_leI (by omega) (by omega)) (fun z => ?_) (fun z => ?_)
    · refine fb_if (nI_eq (by omega) (by omega)) (fun y => ?_) (fun y => ?_)
      · rw [if_pos y, if_pos rfl] at h
        exact h
      · rw [if_neg y, if_pos z, if_neg (by decide)] at h
        exact h
    · rw [if_neg (show ¬ t = a by omega), if_neg z] at h
      obtain ⟨p1, p2⟩ := hp t (by omega)
      have p3 := p2 (by omega)
      refine xx_n (by omega) ?_
      rw [p1]
      exact nm_r (nI_1 i) (x_isa5 hp a ha2 k (pt t) (i + 1) n (by omega) (by omega) (by omega) h)
section
variable {g : mG} {V : Nat → Prop} {Z : Nat → Nat} {pa : Nat → Option Nat} {T : Nat} {f_openCount f_typeCount : Int32} {a_nodeOp a_nodeA a_nodeB a_nodeParts a_nodeSize a_slotSize a_slotParams a_openLists a_typeParent : Nat → Int32} {s : St} {n : Nat} {ca inf mo cn ce re et ex ey ep v : Int32} {sv sh fr : Nat → Int32} {l r : List Fr} {f : Fr} {P : SX → Prop} {post : Int32 → SX → Prop} {N i p q : Nat}
theorem x_isa {f_printedCount f_depthLimit f_fuelLimit f_lastStatus f_lastValue f_lastError f_lastDatum f_lastPlace f_beatsUsed f_frameCount f_mode f_currentNode f_currentEnv f_result f_calls f_inForce f_exitTarget f_exitValue f_exitType f_exitPlace : Int32} {a_elements a_locals a_specialValue a_specialHas a_printed a_frames : Nat → Int32} (X : xG g V Z f_openCount f_typeCount a_nodeOp a_nodeA a_nodeB a_nodeParts a_nodeSize a_slotSize a_slotParams a_openLists a_typeParent) {Q : Int32 → Prop} (t a : Nat) (ht : t ≤ 15) (ha : a ≤ 15) (h : Q (if gI g t a = true then 1 else 0)) : wpX_isA Q (f_openCount, f_typeCount, f_printedCount, f_depthLimit, f_fuelLimit, f_lastStatus, f_lastValue, f_lastError, f_lastDatum, f_lastPlace, f_beatsUsed, f_frameCount, f_mode, f_currentNode, f_currentEnv, f_result, f_calls, f_inForce, f_exitTarget, f_exitValue, f_exitType, f_exitPlace, a_nodeOp, a_nodeA, a_nodeB, a_nodeParts, a_nodeSize, a_slotSize, a_slotParams, a_openLists, a_typeParent, a_elements, a_locals, a_specialValue, a_specialHas, a_printed, a_frames) (nI t) (nI a) := by
  obtain ⟨_, _, pt, h1, h2⟩ := X
  rw [h2 t a ht] at h
  exact ⟨17, x_isa5 h1 a ha 16 t 0 17 (by omega) (by omega) (by omega) h⟩
theorem w_chl : ∀ {l : List Fr} {w : Nat}, w_l g V Z pa w l → (m_ch g l).length ≤ l.length
  | [], _, _ => Nat.le_refl _
  | f :: r, w, W => by
    have ih := w_chl W.2
    show (if fr_ph f = 7 then fr_sc f else if fr_ph f = 1 ∧ (gO g (fr_nd f) = 16 ∨ gO g (fr_nd f) = 17) then (r.length, fr_nd f, fr_ev f) :: m_ch g r else m_ch g r).length ≤ r.length + 1
    split
    · rename_i e7
      obtain ⟨q0, r0, e0, p0, s0⟩ := W.1.2.2.2.2.2.1 e7
      subst e0
      have sg := (W.2.1.2.2.2.2.1 p0).1
      have := sg.length_le
      rw [s0] at this
      have i2 := w_chl W.2.2
      show (fr_sc f).length ≤ r0.length + 1 + 1
      omega
    · split
      · show (m_ch g r).length + 1 ≤ r.length + 1
        omega
      · omega
theorem x_sf {f_printedCount f_depthLimit f_fuelLimit f_lastStatus f_lastValue f_lastError f_lastDatum f_lastPlace f_beatsUsed f_frameCount f_mode f_currentNode f_currentEnv f_result f_calls f_inForce f_exitTarget f_exitValue f_exitType f_exitPlace : Int32} {a_elements a_locals a_specialValue a_specialHas a_printed a_frames : Nat → Int32} {gl : Nat → Option Int32} (G : g_w g V Z pa T) (X : xG g V Z f_openCount f_typeCount a_nodeOp a_nodeA a_nodeB a_nodeParts a_nodeSize a_slotSize a_slotParams a_openLists a_typeParent) (W : w_l g V Z pa 1 r) (Y : xL g a_frames gl r) (b t : Nat) (hb : b + 17 ≤ 11900) (ht : t ≤ 15) (h13 : a_frames (b + 13) = nI t) (hl : r.length < 700) : ∀ (sc : List (Nat × Nat × Nat)), sc <:+ m_ch g r → ∀ (c n : Nat), c + sc.length < 700 → sc.length < n → (m_sf g t sc = none → wpX_endSearch P (f_openCount, f_typeCount, f_printedCount, f_depthLimit, f_fuelLimit, f_lastStatus, f_lastValue, f_lastError, f_lastDatum, f_lastPlace, f_beatsUsed, f_frameCount, f_mode, f_currentNode, f_currentEnv, f_result, f_calls, f_inForce, f_exitTarget, f_exitValue, f_exitType, f_exitPlace, a_nodeOp, a_nodeA, a_nodeB, a_nodeParts, a_nodeSize, a_slotSize, a_slotParams, a_openLists, a_typeParent, a_elements, a_locals, a_specialValue, a_specialHas, a_printed, a_frames) (nI b)) → (∀ h n e t', m_sf g t sc = some ((h, n, e), t') → wpX_takeClause P (f_openCount, f_typeCount, f_printedCount, f_depthLimit, f_fuelLimit, f_lastStatus, f_lastValue, f_lastError, f_lastDatum, f_lastPlace, f_beatsUsed, f_frameCount, f_mode, f_currentNode, f_currentEnv, f_result, f_calls, f_inForce, f_exitTarget, f_exitValue, f_exitType, f_exitPlace, a_nodeOp, a_nodeA, a_nodeB, a_nodeParts, a_nodeSize, a_slotSize, a_slotParams, a_openLists, a_typeParent, a_elements, a_locals, a_specialValue, a_specialHas, a_printed, a_frames) (nI b) (nI h)) → wX_searchClause_17 P (nI b) f_openCount f_typeCount f_printedCount f_depthLimit f_fuelLimit f_lastStatus f_lastValue f_lastError f_lastDatum f_lastPlace f_beatsUsed f_frameCount f_mode f_currentNode f_currentEnv f_result f_calls f_inForce f_exitTarget f_exitValue f_exitType f_exitPlace a_nodeOp a_nodeA a_nodeB a_nodeParts a_nodeSize a_slotSize a_slotParams a_openLists a_typeParent a_elements a_locals a_specialValue a_specialHas a_printed a_frames n (x_ix sc) (nI c)
  | _, _, _, 0, _, hn, _, _ => by omega
  | [], _, c, n + 1, hc, hn, h1, h2 => by
    rw [wX_searchClause_17]
    refine br_c (fun _ => h1 rfl) (fun _ => br_t rfl (h1 rfl))
  | (h, nd, e) :: sc, hs, c, n + 1, hc, hn, h1, h2 => by
    have hc : c + (sc.length + 1) < 700 := hc
    have hn : sc.length + 1 < n + 1 := hn
    obtain ⟨q, r', q1, q2, q3, q4, q5, q6, q7⟩ := w_link W hs
    obtain ⟨Q, QW⟩ := w_suf W q1
    have hxq := xL_at Y q1
    have hlen := q1.length_le
    have hlen : r'.length + 1 ≤ r.length := hlen
    have hV : V nd := by rw [← q3]; exact Q.1
    obtain ⟨n1, n2, n3, n4, n5, n6, n7, n8, n9, n10, n11⟩ := G.1 nd hV
    have hA := (n9 (by omega)).2.2.2.1 (by omega)
    have hT : T ≤ 15 := G.2.2.2.2.2.2.2.1
    have k0 : a_frames (17 * h + 0) = nI nd := by
      rw [← q2, ← q3]
      obtain ⟨⟨nd, ev, ph, rm⟩, ⟨gt, x0, x1, x2⟩, ⟨la, bv, bx, ty⟩, dt, sc, sr, tg, pl⟩ := q
      exact hxq.1
    have k8 : a_frames (17 * h + 8) = x_ix sc := by
      rw [← q2, ← q7]
      obtain ⟨⟨nd, ev, ph, rm⟩, ⟨gt, x0, x1, x2⟩, ⟨la, bv, bx, ty⟩, dt, sc, sr, tg, pl⟩ := q
      exact hxq.2.2.2.2.2.2.2.2.1
    have hm : m_sf g t ((h, nd, e) :: sc) = if gI g t (gA g nd) = true then some ((h, nd, e), sc) else m_sf g t sc := rfl
    rw [hm] at h1 h2
    rw [wX_searchClause_17]
    show _ ∧ _
    refine br_f (nI_ge (b := 700) (by omega) (by decide)) (br_f ?_ ?_)
    · intro z
      have : (0 : Int32) ≤ -1 := by
        rw [← z]; exact nI_pos' (by omega)
      exact absurd this (by decide)
    · refine nm_r (x_mul17 h) ?_
      refine xx_r 0 (by omega) ?_
      rw [k0]
      refine ⟨xx_i 13 (by omega), vp_in_nI n4 (by decide), ?_⟩
      rw [xx_c 13 13 (by omega), h13, nI_clamp (by omega), (X.1 nd hV).2.2.2.2.1 (Or.inr (by unfold fo_ma; omega))]
      refine x_isa X t (gA g nd) ht (by omega) ?_
      by_cases z : gI g t (gA g nd) = true
      · rw [if_pos z] at h2 ⊢
        exact br_f (by decide) (h2 h nd e sc rfl)
      · rw [if_neg z] at h1 h2 ⊢
        refine br_t rfl ?_
        refine xx_r 8 (by omega) ?_
        rw [k8]
        refine nm_r (nI_1 c) ?_
        exact x_sf G X W Y b t hb ht h13 hl sc ((List.suffix_cons _ _).trans hs) (c + 1) n (by omega) (by omega) h1 h2
theorem x_encl {f_openCount f_typeCount f_printedCount f_depthLimit f_fuelLimit f_lastStatus f_lastValue f_lastError f_lastDatum f_lastPlace f_beatsUsed f_frameCount f_mode f_currentNode f_currentEnv f_result f_calls f_inForce f_exitTarget f_exitValue f_exitType f_exitPlace : Int32} {a_nodeOp a_nodeA a_nodeB a_nodeParts a_nodeSize a_slotSize a_slotParams a_openLists a_typeParent a_elements a_locals a_specialValue a_specialHas a_printed a_frames : Nat → Int32} {P : SX → Prop} {ph v : Int32} (b n e w : Nat) (hb : b + 17 ≤ 11900) (hn : n < 392) (he : e ≤ 5) (hw : w < 12) (h0 : a_frames (b + 0) = nI n) (h1 : a_frames (b + 1) = nI e) (hB : a_nodeB n = nI w) (hsh : 8 ≤ w → a_specialHas (w - 8) = 0 ∨ a_specialHas (w - 8) = 1) (hlo : w < 8 → P (f_openCount, f_typeCount, f_printedCount, f_depthLimit, f_fuelLimit, f_lastStatus, f_lastValue, f_lastError, f_lastDatum, f_lastPlace, f_beatsUsed, f_frameCount, 1, f_currentNode, f_currentEnv, f_result, f_calls, f_inForce, f_exitTarget, f_exitValue, f_exitType, f_exitPlace, a_nodeOp, a_nodeA, a_nodeB, a_nodeParts, a_nodeSize, a_slotSize, a_slotParams, a_openLists, a_typeParent, a_elements, upd a_locals (8 * e + w) v, a_specialValue, a_specialHas, a_printed, upd (upd (upd a_frames (b + 2) ph) (b + 3) (nI (n + 1))) (b + 4) 1)) (hbi : 8 ≤ w → P (f_openCount, f_typeCount, f_printedCount, f_depthLimit, f_fuelLimit, f_lastStatus, f_lastValue, f_lastError, f_lastDatum, f_lastPlace, f_beatsUsed, f_frameCount, 1, f_currentNode, f_currentEnv, f_result, f_calls, f_inForce, f_exitTarget, f_exitValue, f_exitType, f_exitPlace, a_nodeOp, a_nodeA, a_nodeB, a_nodeParts, a_nodeSize, a_slotSize, a_slotParams, a_openLists, a_typeParent, a_elements, a_locals, upd a_specialValue (w - 8) v, upd a_specialHas (w - 8) 1, a_printed, upd (upd (upd (upd (upd (upd a_frames (b + 10) (nI w)) (b + 11) (a_specialValue (w - 8))) (b + 12) (a_specialHas (w - 8))) (b + 2) ph) (b + 3) (nI (n + 1))) (b + 4) 1)) : wpX_enterClause P (f_openCount, f_typeCount, f_printedCount, f_depthLimit, f_fuelLimit, f_lastStatus, f_lastValue, f_lastError, f_lastDatum, f_lastPlace, f_beatsUsed, f_frameCount, f_mode, f_currentNode, f_currentEnv, f_result, f_calls, f_inForce, f_exitTarget, f_exitValue, f_exitType, f_exitPlace, a_nodeOp, a_nodeA, a_nodeB, a_nodeParts, a_nodeSize, a_slotSize, a_slotParams, a_openLists, a_typeParent, a_elements, a_locals, a_specialValue, a_specialHas, a_printed, a_frames) (nI b) ph v := by
  refine xx_r 0 (by omega) ?_
  rw [h0]
  refine xx_n hn ?_
  rw [hB]
  by_cases w8 : w < 8
  · refine br_t (nI_lt (b := 8) w8 (by decide)) (br_t rfl ?_)
    refine br_f (nI_ge (b := 8) w8 (by decide)) ⟨xx_i 1 (by omega), ?_⟩
    rw [xx_c 1 1 (by omega), h1]
    have ei : nI e * 8 + nI w = nI (8 * e + w) := by
      rw [show (8 : Int32) = nI 8 from rfl, pk_mul, nI_add, Nat.mul_comm]
    rw [ei]
    refine ⟨vp_in_nI (by omega) (by decide), ?_⟩
    rw [nI_clamp (by omega)]
    refine nm_e ?_
    refine xx_w 2 (by omega) ?_
    rw [nI_1]
    refine xx_w 3 (by omega) ?_
    exact xx_w 4 (by omega) (hlo w8)
  · refine br_f (nI_nlt (b := 8) (by omega) (by omega)) (br_f (nI_ge (b := 12) hw (by decide)) (br_f (by decide) ?_))
    refine x_bind b w hb (by omega) hw (hsh (by omega)) ?_
    refine xx_w 2 (by omega) ?_
    rw [nI_1]
    refine xx_w 3 (by omega) ?_
    exact xx_w 4 (by omega) (hbi (by omega))
theorem x_clR (G : g_w g V Z pa T) (X : xG g V Z f_openCount f_typeCount a_nodeOp a_nodeA a_nodeB a_nodeParts a_nodeSize a_slotSize a_slotParams a_openLists a_typeParent) {nd ev ph gt ty sr : Nat} {x0 x1 x2 la dt pl : Int32} {sc : List (Nat × Nat × Nat)} {tg : Option Nat} {cl : Nat} (hph : ph = 5 ∨ ph = 7) (hV : V nd) (he : ev ≤ 5) (hO1 : 16 ≤ gO g nd) (hO2 : gO g nd ≤ 18) (hcl : cl = nd + 1) (hl : r.length < 700) (k0 : fr (17 * r.length + 0) = nI nd) (k1 : fr (17 * r.length + 1) = nI ev) (k8 : fr (17 * r.length + 8) = x_ix (m_ch g r)) (k9 : fr (17 * r.length + 9) = nI (m_fc r)) (k10 : fr (17 * r.length + 10) = 0) (hL : xL g fr (sGl s) r) (h1 : xSp sv sh (sGl s) r) (h : ∀ sv' sh' fr', xSp sv' sh' (sGl s) (((nd, ev, ph, [cl]), (gt, x0, x1, x2), (la, m_cv g nd, v, ty), dt, sc, sr, tg, pl) :: r) → xL g fr' (sGl s) (((nd, ev, ph, [cl]), (gt, x0, x1, x2), (la, m_cv g nd, v, ty), dt, sc, sr, tg, pl) :: r) → P (xU g f_openCount f_typeCount a_nodeOp a_nodeA a_nodeB a_nodeParts a_nodeSize a_slotSize a_slotParams a_openLists a_typeParent x_z0 (m_cs g nd ev v s) (r.length + 1) ca inf 1 cn ce re et ex ey ep sv' sh' fr')) : wpX_enterClause P (xU g f_openCount f_typeCount a_nodeOp a_nodeA a_nodeB a_nodeParts a_nodeSize a_slotSize a_slotParams a_openLists a_typeParent x_z0 s (r.length + 1) ca inf mo cn ce re et ex ey ep sv sh fr) (nI (17 * r.length)) (nI ph) v := by
  obtain ⟨n1, n2, n3, n4, n5, n6, n7, n8, n9, n10, n11⟩ := G.1 nd hV
  have hw := n10 hO1 hO2
  have hB := (X.1 nd hV).2.2.2.2.2.1 hO1 hO2
  have hbb : 17 * r.length + 17 ≤ 11900 := by omega
  have e2 : nI (if ph = 8 then 4 else ph) = nI ph := by rw [if_neg (by omega)]
  have np1 : ¬ (ph = 0 ∨ ph = 2 ∨ (ph = 1 ∧ gO g nd = 13)) := by omega
  have hsp : 8 ≤ gB g nd → x_sp (sv (gB g nd - 8)) (sh (gB g nd - 8)) (m_cur (sGl s) (gB g nd) r) := by
    intro z
    have := h1 (gB g nd - 8) (by omega)
    rw [show 8 + (gB g nd - 8) = gB g nd from by omega] at this
    exact this
  refine x_encl (17 * r.length) nd ev (gB g nd) hbb n4 he hw k0 k1 hB (fun z => x_sp01 (hsp z)) (fun z => ?_) (fun z => ?_)
  · have ecv : m_cv g nd = 0 := if_pos z
    have ecs : m_cs g nd ev v s = s_lo s (upd (sLo s) (8 * ev + gB g nd) v) := if_pos z
    rw [ecv, ecs] at h
    refine h sv sh (upd (upd (upd fr (17 * r.length + 2) (nI ph)) (17 * r.length + 3) (nI (nd + 1))) (17 * r.length + 4) 1) (xSp_c rfl h1) ⟨⟨?_, ?_, ?_, ?_, ?_, ?_, ?_, ?_, ?_, ?_, ?_, ?_, ?_, ?_⟩, xL_keep hL ?_⟩
    · simp (disch := decide) only [up_n, up_s]; exact k0
    · simp (disch := decide) only [up_n, up_s]; exact k1
    · simp (disch := decide) only [up_n, up_s]; exact e2.symm
    · intro c cs y
      injection y with y1 y2
      simp (disch := decide) only [up_n, up_s]
      rw [← y1, hcl]
    · simp (disch := decide) only [up_n, up_s]; rfl
    · intro y; exact absurd y np1
    · intro y; omega
    · intro y; omega
    · simp (disch := decide) only [up_n, up_s]; exact k8
    · simp (disch := decide) only [up_n, up_s]; exact k9
    · simp (disch := decide) only [up_n, up_s]; exact k10
    · intro y; exact absurd rfl y
    · intro y; omega
    · intro y; omega
    · intro j hj
      rw [pk_un (by omega), pk_un (by omega), pk_un (by omega)]
  · have ecv : m_cv g nd = gB g nd := if_neg (by omega)
    have ecs : m_cs g nd ev v s = s := if_neg (by omega)
    rw [ecv, ecs] at h
    refine h _ _ (upd (upd (upd (upd (upd (upd fr (17 * r.length + 10) (nI (gB g nd))) (17 * r.length + 11) (sv (gB g nd - 8))) (17 * r.length + 12) (sh (gB g nd - 8))) (17 * r.length + 2) (nI ph)) (17 * r.length + 3) (nI (nd + 1))) (17 * r.length + 4) 1) (xSp_b z rfl rfl h1) ⟨⟨?_, ?_, ?_, ?_, ?_, ?_, ?_, ?_, ?_, ?_, ?_, ?_, ?_, ?_⟩, xL_keep hL ?_⟩
    · simp (disch := decide) only [up_n, up_s]; exact k0
    · simp (disch := decide) only [up_n, up_s]; exact k1
    · simp (disch := decide) only [up_n, up_s]; exact e2.symm
    · intro c cs y
      injection y with y1 y2
      simp (disch := decide) only [up_n, up_s]
      rw [← y1, hcl]
    · simp (disch := decide) only [up_n, up_s]; rfl
    · intro y; exact absurd y np1
    · intro y; omega
    · intro y; omega
    · simp (disch := decide) only [up_n, up_s]; exact k8
    · simp (disch := decide) only [up_n, up_s]; exact k9
    · simp (disch := decide) only [up_n, up_s]
    · intro _; simp (disch := decide) only [up_n, up_s]; exact hsp z
    · intro y; omega
    · intro y; omega
    · intro j hj
      rw [pk_un (by omega), pk_un (by omega), pk_un (by omega), pk_un (by omega), pk_un (by omega), pk_un (by omega)]
theorem m_cs_gl {n e : Nat} {v : Int32} {s : St} : sGl (m_cs g n e v s) = sGl s ∧ sBe (m_cs g n e v s) = sBe s := by
  unfold m_cs
  split
  · exact ⟨rfl, rfl⟩
  · exact ⟨rfl, rfl⟩
theorem x_plc {Q : Int32 → Prop} {n : Nat} (hn : n < 392) (h : Q (m_pla n)) : wpX_placeOf Q (nI n) := by
  refine ⟨by decide, ?_⟩
  have e1 : nI n / 56 = nI (n / 56) := pk_div (by omega) (by decide) (by decide)
  have e2 : nI n - nI (n / 56) * 56 = nI (n % 56) := by
    rw [← e1]; exact pk_rem (by omega) (by decide) (by decide)
  rw [e1, e2]
  refine nm_e ⟨by decide, nm_e ?_⟩
  unfold m_pla at h
  refine fb_if (nI_eq (b := 6) (by omega) (by decide)) (fun z => ?_) (fun z => ?_)
  · rw [if_pos (by omega)] at h
    rw [show n % 56 = n - 336 from by omega]
    exact h
  · rw [if_neg (by omega)] at h
    rw [show (1 : Int32) = nI 1 from rfl, nI_add, show (100 : Int32) = nI 100 from rfl, pk_mul, nI_add]
    exact h
end
end
section
/-! the class's side: a search's step, an exit's step, every step, the run -/
section
variable {g : mG} {V : Nat → Prop} {Z : Nat → Nat} {pa : Nat → Option Nat} {T : Nat} {f_openCount f_typeCount : Int32} {a_nodeOp a_nodeA a_nodeB a_nodeParts a_nodeSize a_slotSize a_slotParams a_openLists a_typeParent : Nat → Int32} {s : St} {n : Nat} {ca inf mo cn ce re et ex ey ep v : Int32} {sv sh fr : Nat → Int32} {l r : List Fr} {f : Fr} {P : SX → Prop} {post : Int32 → SX → Prop} {N i p q : Nat}
theorem w_bd48 {f : Fr} (h : w_bd g f) (hp : fr_ph f = 4 ∨ fr_ph f = 8) : fr_bv f = 0 := by
  rcases h with z | ⟨_, _, z⟩
  · exact z
  · omega
theorem w_48 {ph : Nat} (hp : ph = 4 ∨ ph = 8) : ph ≠ 7 ∧ ph ≠ 6 ∧ ph ≠ 1 ∧ ph ≠ 3 := by omega
theorem xF_sc {gl : Nat → Option Int32} {b h : Nat} {t : List (Nat × Nat × Nat)} {nd ev ph gt ty sr : Nat} {rm : List Nat} {x0 x1 x2 la bx dt pl : Int32} {sc : List (Nat × Nat × Nat)} {tg : Option Nat} (hp : ph = 4 ∨ ph = 8) (H : xF g fr gl b ((nd, ev, ph, rm), (gt, x0, x1, x2), (la, 0, bx, ty), dt, sc, sr, tg, pl) r) : xF g (upd fr (b + 15) (x_ix t)) gl b ((nd, ev, ph, rm), (gt, x0, x1, x2), (la, 0, bx, ty), dt, t, h, tg, pl) r := by
  obtain ⟨hne7, hne6, hne1, hne3⟩ := w_48 hp
  obtain ⟨c0, c1, c2, c3, c4, c5, c6, c7, c8, c9, c10, c11, c12, c13⟩ := H
  obtain ⟨d13, d14, d15⟩ := c12 hp
  refine ⟨?_, ?_, ?_, ?_, ?_, ?_, ?_, ?_, ?_, ?_, ?_, ?_, ?_, ?_⟩
  · simp (disch := decide) only [up_n, up_s]; exact c0
  · simp (disch := decide) only [up_n, up_s]; exact c1
  · simp (disch := decide) only [up_n, up_s]; exact c2
  · simp (disch := decide) only [up_n, up_s]; exact c3
  · simp (disch := decide) only [up_n, up_s]; exact c4
  · simp (disch := decide) only [up_n, up_s]; exact c5
  · simp (disch := decide) only [up_n, up_s]; exact c6
  · simp (disch := decide) only [up_n, up_s]; exact c7
  · simp (disch := decide) only [up_n, up_s]; exact c8
  · simp (disch := decide) only [up_n, up_s]; exact c9
  · simp (disch := decide) only [up_n, up_s]; exact c10
  · intro y; exact absurd rfl y
  · intro _
    simp (disch := decide) only [up_n, up_s]
    exact ⟨d13, d14, trivial⟩
  · intro y; exact absurd y hne3
theorem x_srchR (G : g_w g V Z pa T) (X : xG g V Z f_openCount f_typeCount a_nodeOp a_nodeA a_nodeB a_nodeParts a_nodeSize a_slotSize a_slotParams a_openLists a_typeParent) {nd ev ph gt bv ty sr : Nat} {rm : List Nat} {x0 x1 x2 la bx dt pl : Int32} {sc : List (Nat × Nat × Nat)} {tg : Option Nat} (F : w_f g V Z pa 1 ((nd, ev, ph, rm), (gt, x0, x1, x2), (la, bv, bx, ty), dt, sc, sr, tg, pl) r) (W : w_l g V Z pa 1 r) (hp : ph = 4 ∨ ph = 8) (hs : w_s g s) (h1 : xSp sv sh (sGl s) (((nd, ev, ph, rm), (gt, x0, x1, x2), (la, bv, bx, ty), dt, sc, sr, tg, pl) :: r)) (h2 : xL g fr (sGl s) (((nd, ev, ph, rm), (gt, x0, x1, x2), (la, bv, bx, ty), dt, sc, sr, tg, pl) :: r)) (hi : i + 8 < 10000000) (H : ∀ p q, p + q = 8 → ∀ u', px_R g f_openCount f_typeCount a_nodeOp a_nodeA a_nodeB a_nodeParts a_nodeSize a_slotSize a_slotParams a_openLists a_typeParent (m_srch g ((nd, ev, ph, rm), (gt, x0, x1, x2), (la, bv, bx, ty), dt, sc, sr, tg, pl) r s) u' → xR post (N + p) (i + q) u') : xR post (N + 8) i (xU g f_openCount f_typeCount a_nodeOp a_nodeA a_nodeB a_nodeParts a_nodeSize a_slotSize a_slotParams a_openLists a_typeParent x_z0 s (r.length + 1) (nI (m_fc r)) (x_ix (m_ch g r)) 5 cn ce re et ex ey ep sv sh fr) := by
  obtain ⟨hne7, hne6, hne1, hne3⟩ := w_48 hp
  obtain ⟨f1, f2, f3, f4, f5, f6, f7, f8, f9, f10⟩ := F
  have f1 : V nd := f1
  obtain ⟨n1, n2, n3, n4, _⟩ := G.1 nd f1
  have y1 := (X.1 nd f1).1
  obtain ⟨s1, s2, s3, s4, s50, _⟩ := f5 hp
  have s1 : sc <:+ m_ch g r := s1
  have s5 : ty ≤ 15 := s50
  have hlen := w_len (f9 hne7) (by show 1 ≤ Z nd; exact n2)
  have hL := h2.2
  have c0 : fr (17 * r.length + 0) = nI nd := h2.1.1
  obtain ⟨d13, d14, d15⟩ := h2.1.2.2.2.2.2.2.2.2.2.2.2.2.1 hp
  have hb : bv = 0 := w_bd48 f4 hp
  subst hb
  have hbb : 17 * r.length + 17 ≤ 11900 := by omega
  have hF : gF g ≤ 200 := G.2.2.2.2.2.2.1
  have efc : m_fc (((nd, ev, ph, rm), (gt, x0, x1, x2), (la, 0, bx, ty), dt, sc, sr, tg, pl) :: r) = m_fc r := w_fc_ne hne6
  have ech : m_ch g (((nd, ev, ph, rm), (gt, x0, x1, x2), (la, 0, bx, ty), dt, sc, sr, tg, pl) :: r) = m_ch g r := (if_neg hne7).trans (if_neg (fun z => hne1 z.1))
  have hiq : 2 * r.length + 4 * Z nd + w_kX g Z (m_ch g r) + 224 * (5 - m_fc r) ≤ 1400 := (f9 hne7).2
  clear f3 f4 f5 f6 f7 f8 f9 f10 s2 s3 s4
  refine x_go (N := N + 7) (by omega) (show ¬ (5 : Int32) = 7 by decide) ?_
  refine br_f (by decide) (br_f (by decide) (br_f (by decide) (br_f (by decide) (br_f (by decide) (br_f (by decide) (br_f (by decide) (br_t rfl ?_)))))))
  unfold wpX_searchClause
  dsimp only
  refine x_top r.length ?_
  refine xx_r 15 (by omega) ?_
  rw [d15]
  have hcl := (w_chl W)
  have hcl2 : sc.length ≤ (m_ch g r).length := s1.length_le
  refine ⟨701, ?_⟩
  refine x_sf (gl := sGl s) G X W hL (17 * r.length) ty hbb s5 d13 (by omega) sc s1 0 701 (by omega) (by omega) (fun hm => ?_) (fun h n e t hm => ?_)
  · have e0 : m_srch g ((nd, ev, ph, rm), (gt, x0, x1, x2), (la, 0, bx, ty), dt, sc, sr, tg, pl) r s = if gO g nd = 20 then m_dlv r 0 s else (3, dt, none, ty, m_pla nd, ((nd, ev, ph, rm), (gt, x0, x1, x2), (la, 0, bx, ty), dt, sc, sr, tg, pl) :: r, s) := by
      unfold m_srch
      rw [show m_sf g (fr_ty ((nd, ev, ph, rm), (gt, x0, x1, x2), (la, 0, bx, ty), dt, sc, sr, tg, pl)) (fr_sc ((nd, ev, ph, rm), (gt, x0, x1, x2), (la, 0, bx, ty), dt, sc, sr, tg, pl)) = none from hm]
      rfl
    rw [e0] at H
    refine xx_r 0 (by omega) ?_
    rw [c0]
    refine ⟨vp_in_nI n4 (by decide), ?_⟩
    rw [nI_clamp (by omega), y1]
    refine fb_if (nI_eq (b := 20) (by omega) (by decide)) (fun z => ?_) (fun z => ?_)
    · rw [if_pos z] at H
      exact x_finR (p := 6) (q := 1) (f := ((nd, ev, ph, rm), (gt, x0, x1, x2), (la, 0, bx, ty), dt, sc, sr, tg, pl)) (sv := sv) (sh := sh) (fr := fr) h1 h2 (Or.inl rfl) (by omega) hi rfl H
    · rw [if_neg z] at H
      refine xx_r 13 (by omega) ?_
      rw [d13]
      refine x_plc n4 ?_
      refine ⟨xx_i 14 (by omega), ?_⟩
      rw [xx_c 14 14 (by omega), d14]
      refine H 7 1 rfl _ ?_
      refine ⟨cn, ce, re, -1, dt, nI ty, m_pla nd, sv, sh, fr, h1, h2, fun z => (by cases z), fun z => (by cases z), fun _ => ⟨rfl, rfl, fun _ => ⟨rfl, rfl⟩⟩, ?_⟩
      show _ = xU g f_openCount f_typeCount a_nodeOp a_nodeA a_nodeB a_nodeParts a_nodeSize a_slotSize a_slotParams a_openLists a_typeParent _ s (r.length + 1) (nI (m_fc (((nd, ev, ph, rm), (gt, x0, x1, x2), (la, 0, bx, ty), dt, sc, sr, tg, pl) :: r))) (x_ix (m_ch g (((nd, ev, ph, rm), (gt, x0, x1, x2), (la, 0, bx, ty), dt, sc, sr, tg, pl) :: r))) _ _ _ _ _ _ _ _ _ _ _
      rw [efc, ech]
      rfl
  · obtain ⟨b1, b2⟩ := m_sf_some hm
    have b3 : ((h, n, e) :: t) <:+ m_ch g r := b1.trans s1
    obtain ⟨q, r', q1, q2, q3, q4, q5, q6, q7⟩ := w_link W b3
    obtain ⟨Q, QW⟩ := w_suf W q1
    have hxq := xL_at hL q1
    have hlen2 := q1.length_le
    have hlen2 : r'.length + 1 ≤ r.length := hlen2
    have hVn : V n := by rw [← q3]; exact Q.1
    have he : e ≤ 5 := by rw [← q4]; exact Q.2.1
    have k0 : fr (17 * h + 0) = nI n := by
      rw [← q2, ← q3]
      obtain ⟨⟨nd', ev', ph', rm'⟩, ⟨gt', x0', x1', x2'⟩, ⟨la', bv', bx', ty'⟩, dt', sc', sr', tg', pl'⟩ := q
      exact hxq.1
    have k1 : fr (17 * h + 1) = nI e := by
      rw [← q2, ← q4]
      obtain ⟨⟨nd', ev', ph', rm'⟩, ⟨gt', x0', x1', x2'⟩, ⟨la', bv', bx', ty'⟩, dt', sc', sr', tg', pl'⟩ := q
      exact hxq.2.1
    have k8 : fr (17 * h + 8) = x_ix t := by
      rw [← q2, ← q7]
      obtain ⟨⟨nd', ev', ph', rm'⟩, ⟨gt', x0', x1', x2'⟩, ⟨la', bv', bx', ty'⟩, dt', sc', sr', tg', pl'⟩ := q
      exact hxq.2.2.2.2.2.2.2.2.1
    obtain ⟨m1, m2, m3, m4, m5, _⟩ := G.1 n hVn
    have e0 : m_srch g ((nd, ev, ph, rm), (gt, x0, x1, x2), (la, 0, bx, ty), dt, sc, sr, tg, pl) r s = if gO g n = 17 then (3, dt, some h, 0, 0, ((nd, ev, ph, rm), (gt, x0, x1, x2), (la, 0, bx, ty), dt, sc, sr, tg, pl) :: r, s)
        else if gF g ≤ sBe s then (6, 0, none, 0, 0, ((nd, ev, ph, rm), (gt, x0, x1, x2), (la, 0, bx, ty), dt, t, h, tg, pl) :: r, s)
        else m_ev g ((gK g n).getD 0 0) e (((n, e, 7, []), (0, 0, 0, 0), (0, m_cv g n, dt, 0), 0, t, 0, none, 0) :: ((nd, ev, ph, rm), (gt, x0, x1, x2), (la, 0, bx, ty), dt, t, h, tg, pl) :: r) (m_cs g n e dt (s_be s (sBe s + 1))) := by
      unfold m_srch
      rw [show m_sf g (fr_ty ((nd, ev, ph, rm), (gt, x0, x1, x2), (la, 0, bx, ty), dt, sc, sr, tg, pl)) (fr_sc ((nd, ev, ph, rm), (gt, x0, x1, x2), (la, 0, bx, ty), dt, sc, sr, tg, pl)) = some ((h, n, e), t) from hm]
      rfl
    rw [e0] at H
    refine nm_r (x_mul17 h) ?_
    refine xx_r 0 (by omega) ?_
    rw [k0]
    refine xx_r 14 (by omega) ?_
    rw [d14]
    refine ⟨vp_in_nI m4 (by decide), ?_⟩
    rw [nI_clamp (by omega), (X.1 n hVn).1]
    refine fb_if (nI_eq (b := 17) (by omega) (by decide)) (fun z => ?_) (fun z => ?_)
    · rw [if_pos z] at H
      refine H 7 1 rfl _ ?_
      refine ⟨cn, ce, re, nI h, dt, ey, ep, sv, sh, fr, h1, h2, fun z => (by cases z), fun z => (by cases z), fun _ => ⟨rfl, rfl, fun z => (by cases z)⟩, ?_⟩
      show _ = xU g f_openCount f_typeCount a_nodeOp a_nodeA a_nodeB a_nodeParts a_nodeSize a_slotSize a_slotParams a_openLists a_typeParent _ s (r.length + 1) (nI (m_fc (((nd, ev, ph, rm), (gt, x0, x1, x2), (la, 0, bx, ty), dt, sc, sr, tg, pl) :: r))) (x_ix (m_ch g (((nd, ev, ph, rm), (gt, x0, x1, x2), (la, 0, bx, ty), dt, sc, sr, tg, pl) :: r))) _ _ _ _ _ _ _ _ _ _ _
      rw [efc, ech]
      rfl
    · rw [if_neg z] at H
      have hO16 : gO g n = 16 := by omega
      have hkx : (if gO g n = 16 then 4 * Z ((gK g n).getD 0 0) + 2 else 0) + w_kX g Z t ≤ w_kX g Z (m_ch g r) := (w_kY_suf (g := g) (Z := Z) b3).2
      rw [if_pos hO16] at hkx
      refine ⟨xx_i 8 (by omega), ?_⟩
      rw [xx_c 8 8 (by omega), k8]
      refine xx_w 15 (by omega) ?_
      have fF := xF_sc (t := t) (h := h) hp h2.1
      have fL : xL g (upd fr (17 * r.length + 15) (x_ix t)) (sGl s) (((nd, ev, ph, rm), (gt, x0, x1, x2), (la, 0, bx, ty), dt, t, h, tg, pl) :: r) := ⟨fF, xL_keep hL (fun j hj => by rw [pk_un (by omega)])⟩
      have efc' : m_fc (((nd, ev, ph, rm), (gt, x0, x1, x2), (la, 0, bx, ty), dt, t, h, tg, pl) :: r) = m_fc r := w_fc_ne hne6
      have ech' : m_ch g (((nd, ev, ph, rm), (gt, x0, x1, x2), (la, 0, bx, ty), dt, t, h, tg, pl) :: r) = m_ch g r := (if_neg hne7).trans (if_neg (fun z => hne1 z.1))
      refine x_beat hs.1 hF (fun w => ?_) (fun w => ?_)
      · rw [if_neg (by omega)] at H
        refine br_f (by decide) ?_
        refine ⟨xx_i 1 (by omega), ?_⟩
        rw [xx_c 1 1 (by omega), pk_un (by omega), k1]
        refine x_push (r.length + 1) n e (gK g n).length (m_fc r) m4 (by omega) (X.1 n hVn).2.1 ?_
        refine br_f (by decide) ?_
        obtain ⟨p0, p1, p2, p3, p4, p8, p9, p10⟩ := x_pf_c (fr := upd fr (17 * r.length + 15) (x_ix t)) (b := 17 * (r.length + 1)) (n := n) (e := e) (m := (gK g n).length) (inf := x_ix (m_ch g r)) (c := m_fc r)
        have pb : ∀ j, j < 17 * (r.length + 1) → x_pf (upd fr (17 * r.length + 15) (x_ix t)) (17 * (r.length + 1)) n e (gK g n).length (x_ix (m_ch g r)) (m_fc r) j = (upd fr (17 * r.length + 15) (x_ix t)) j := fun j hj => x_pf_b hj
        generalize x_pf (upd fr (17 * r.length + 15) (x_ix t)) (17 * (r.length + 1)) n e (gK g n).length (x_ix (m_ch g r)) (m_fc r) = fn at p0 p1 p2 p3 p4 p8 p9 p10 pb ⊢
        refine ⟨xx_i 8 (by omega), nm_e ?_⟩
        rw [pb _ (by omega), pk_un (by omega), k8]
        refine x_top (r.length + 1) ?_
        have hle : 1 ≤ (gK g n).length := fo_lst (G.1 n hVn) (by omega) (by rw [hO16]; rfl)
        obtain ⟨cl, cs, hK⟩ : ∃ a t, gK g n = a :: t := by
          cases hK : gK g n with
          | nil => rw [hK] at hle; exact absurd hle (by decide)
          | cons a t => exact ⟨a, t, rfl⟩
        have hcn := (x_K1 G hVn cl cs hK).1
        have hVc : V cl := (m5 cl (by rw [hK]; exact List.mem_cons_self ..)).1
        have eget : (gK g n).getD 0 0 = cl := by rw [hK]; rfl
        rw [eget] at H
        have gl1 := m_cs_gl (g := g) (n := n) (e := e) (v := dt) (s := s_be s (sBe s + 1))
        refine x_clR (r := ((nd, ev, ph, rm), (gt, x0, x1, x2), (la, 0, bx, ty), dt, t, h, tg, pl) :: r) (nd := n) (ev := e) (ph := 7) (gt := 0) (ty := 0) (sr := 0) (x0 := 0) (x1 := 0) (x2 := 0) (la := 0) (dt := 0) (pl := 0) (sc := t) (tg := none) (cl := cl) (s := s_be s (sBe s + 1)) (fr := fn) G X (Or.inr rfl) hVn he (by omega) (by omega) hcn (by show r.length + 1 < 700; omega) p0 p1 (by rw [ech']; exact p8) (by rw [efc']; exact p9) p10 (xL_keep fL pb) (xSp_c rfl (xSp_d rfl h1)) (fun sv' sh' fr' j1 j2 => ?_)
        have j1' := j1
        rw [show sGl (s_be s (sBe s + 1)) = sGl (m_cs g n e dt (s_be s (sBe s + 1))) from gl1.1.symm] at j1 j2
        exact x_pcR (p := 5) (q := 1) (r := ((nd, ev, ph, rm), (gt, x0, x1, x2), (la, 0, bx, ty), dt, t, h, tg, pl) :: r) (nd := n) (ev := e) (ph := 7) (gt := 0) (bv := m_cv g n) (ty := 0) (sr := 0) (x0 := 0) (x1 := 0) (x2 := 0) (la := 0) (bx := dt) (dt := 0) (pl := 0) (sc := t) (tg := none) (c := cl) (cs := []) (s := m_cs g n e dt (s_be s (sBe s + 1))) (sv := sv') (sh := sh') (fr := fr') G X (by decide) hVc he (fun c' cs' z => by cases z) j1 j2 (by show r.length + 1 + 1 < 700; omega) (by rw [gl1.2]; show sBe s + 1 ≤ gF g; omega) hi rfl (by
          show nI (m_fc r) = nI (m_fc (((nd, ev, ph, rm), (gt, x0, x1, x2), (la, 0, bx, ty), dt, t, h, tg, pl) :: r) + 0)
          rw [efc', Nat.add_zero]) rfl H
      · rw [if_pos w] at H
        refine br_t rfl ?_
        refine H 7 1 rfl _ ?_
        refine ⟨cn, ce, re, et, ex, ey, ep, sv, sh, upd fr (17 * r.length + 15) (x_ix t), xSp_c rfl (xSp_d rfl h1), fL, fun z => (by cases z), fun z => (by cases z), fun z => (by cases z), ?_⟩
        show _ = xU g f_openCount f_typeCount a_nodeOp a_nodeA a_nodeB a_nodeParts a_nodeSize a_slotSize a_slotParams a_openLists a_typeParent _ s (r.length + 1) (nI (m_fc (((nd, ev, ph, rm), (gt, x0, x1, x2), (la, 0, bx, ty), dt, t, h, tg, pl) :: r))) (x_ix (m_ch g (((nd, ev, ph, rm), (gt, x0, x1, x2), (la, 0, bx, ty), dt, t, h, tg, pl) :: r))) _ _ _ _ _ _ _ _ _ _ _
        rw [efc', ech']
        rfl
end
end
section
/-! the class's side: an exit's step, every step, the run -/
section
variable {g : mG} {V : Nat → Prop} {Z : Nat → Nat} {pa : Nat → Option Nat} {T : Nat} {f_openCount f_typeCount : Int32} {a_nodeOp a_nodeA a_nodeB a_nodeParts a_nodeSize a_slotSize a_slotParams a_openLists a_typeParent : Nat → Int32} {s : St} {n : Nat} {ca inf mo cn ce re et ex ey ep v : Int32} {sv sh fr : Nat → Int32} {l r : List Fr} {f : Fr} {P : SX → Prop} {post : Int32 → SX → Prop} {N i p q : Nat}
theorem w_ln (G : g_w g V Z pa T) {w : Nat} {l : List Fr} (W : w_l g V Z pa w l) : l.length ≤ 700 := by
  cases l with
  | nil => exact Nat.zero_le _
  | cons f r =>
    by_cases e : fr_ph f = 7
    · obtain ⟨q0, r0, e0, p0, s0⟩ := W.1.2.2.2.2.2.1 e
      subst e0
      have := w_len (W.2.1.2.2.2.2.2.2.2.2.1 (w_48 p0).1) (G.1 _ W.2.1.1).2.1
      show r0.length + 1 + 1 ≤ 700
      omega
    · have := w_len (W.1.2.2.2.2.2.2.2.2.1 e) (G.1 _ W.1.1).2.1
      show r.length + 1 ≤ 700
      omega
theorem xF_hold {gl : Nat → Option Int32} {b t : Nat} {tgt : Option Nat} {p v ey ep : Int32} {nd ev gt ty sr : Nat} {rm : List Nat} {x0 x1 x2 la bx dt pl : Int32} {sc : List (Nat × Nat × Nat)} {tg : Option Nat} (H : xF g fr gl b ((nd, ev, 0, rm), (gt, x0, x1, x2), (la, 0, bx, ty), dt, sc, sr, tg, pl) r) (hh : tgt = none → ey = nI t ∧ ep = p) : xF g (upd (upd (upd (upd (upd fr (b + 2) 3) (b + 15) (x_tg tgt)) (b + 14) v) (b + 13) ey) (b + 16) ep) gl b ((nd, ev, 3, rm), (1, x0, x1, x2), (la, 0, bx, t), v, sc, sr, tgt, p) r := by
  obtain ⟨c0, c1, c2, c3, c4, c5, c6, c7, c8, c9, c10, c11, c12, c13⟩ := H
  refine ⟨?_, ?_, ?_, ?_, ?_, ?_, ?_, ?_, ?_, ?_, ?_, ?_, ?_, ?_⟩
  · simp (disch := decide) only [up_n, up_s]; exact c0
  · simp (disch := decide) only [up_n, up_s]; exact c1
  · simp (disch := decide) only [up_n, up_s]; rfl
  · simp (disch := decide) only [up_n, up_s]; exact c3
  · simp (disch := decide) only [up_n, up_s]; exact c4
  · intro z; rcases z with z | z | ⟨z, _⟩ <;> cases z
  · intro z; cases z
  · intro z; cases z
  · simp (disch := decide) only [up_n, up_s]; exact c8
  · simp (disch := decide) only [up_n, up_s]; exact c9
  · simp (disch := decide) only [up_n, up_s]; exact c10
  · intro y; exact absurd rfl y
  · intro z; rcases z with z | z <;> cases z
  · intro _
    simp (disch := decide) only [up_n, up_s]
    exact ⟨trivial, trivial, hh⟩
theorem x_exitR (G : g_w g V Z pa T) (X : xG g V Z f_openCount f_typeCount a_nodeOp a_nodeA a_nodeB a_nodeParts a_nodeSize a_slotSize a_slotParams a_openLists a_typeParent) {nd ev ph gt bv ty sr : Nat} {rm : List Nat} {x0 x1 x2 la bx dt pl : Int32} {sc : List (Nat × Nat × Nat)} {tg : Option Nat} {tgt : Option Nat} {t : Nat} {pp : Int32} (FW : w_l g V Z pa 1 (((nd, ev, ph, rm), (gt, x0, x1, x2), (la, bv, bx, ty), dt, sc, sr, tg, pl) :: r) ∨ w_l g V Z pa 0 (((nd, ev, ph, rm), (gt, x0, x1, x2), (la, bv, bx, ty), dt, sc, sr, tg, pl) :: r) ∧ (gO g nd = 12 ∨ gO g nd = 14 ∨ gO g nd = 19)) (ht : w_tg g tgt (((nd, ev, ph, rm), (gt, x0, x1, x2), (la, bv, bx, ty), dt, sc, sr, tg, pl) :: r)) (hs : w_s g s) (h1 : xSp sv sh (sGl s) (((nd, ev, ph, rm), (gt, x0, x1, x2), (la, bv, bx, ty), dt, sc, sr, tg, pl) :: r)) (h2 : xL g fr (sGl s) (((nd, ev, ph, rm), (gt, x0, x1, x2), (la, bv, bx, ty), dt, sc, sr, tg, pl) :: r)) (hh : tgt = none → ey = nI t ∧ ep = pp) (hi : i + 8 < 10000000) (H : ∀ p q, p + q = 8 → ∀ u', px_R g f_openCount f_typeCount a_nodeOp a_nodeA a_nodeB a_nodeParts a_nodeSize a_slotSize a_slotParams a_openLists a_typeParent (m_exit g v tgt t pp ((nd, ev, ph, rm), (gt, x0, x1, x2), (la, bv, bx, ty), dt, sc, sr, tg, pl) r s) u' → xR post (N + p) (i + q) u') : xR post (N + 8) i (xU g f_openCount f_typeCount a_nodeOp a_nodeA a_nodeB a_nodeParts a_nodeSize a_slotSize a_slotParams a_openLists a_typeParent x_z0 s (r.length + 1) (nI (m_fc (((nd, ev, ph, rm), (gt, x0, x1, x2), (la, bv, bx, ty), dt, sc, sr, tg, pl) :: r))) (x_ix (m_ch g (((nd, ev, ph, rm), (gt, x0, x1, x2), (la, bv, bx, ty), dt, sc, sr, tg, pl) :: r))) 6 cn ce re (x_tg tgt) v ey ep sv sh fr) := by
  have hlen : r.length + 1 ≤ 700 := by
    rcases FW with z | z
    · exact w_ln G z
    · exact w_ln G z.1
  have f1 : V nd := by
    rcases FW with z | z
    · exact z.1.1
    · exact z.1.1.1
  have f2 : ev ≤ 5 := by
    rcases FW with z | z
    · exact z.1.2.1
    · exact z.1.1.2.1
  have f4 : w_bd g ((nd, ev, ph, rm), (gt, x0, x1, x2), (la, bv, bx, ty), dt, sc, sr, tg, pl) := by
    rcases FW with z | z
    · exact z.1.2.2.2.1
    · exact z.1.1.2.2.2.1
  have hph : ph < 9 := by
    have f3 : w_lk g 1 ((nd, ev, ph, rm), (gt, x0, x1, x2), (la, bv, bx, ty), dt, sc, sr, tg, pl) ∨ w_lk g 0 ((nd, ev, ph, rm), (gt, x0, x1, x2), (la, bv, bx, ty), dt, sc, sr, tg, pl) := by
      rcases FW with z | z
      · exact Or.inl z.1.2.2.1
      · exact Or.inr z.1.1.2.2.1
    rcases f3 with h | h
    · rcases h with h | h | h | h | h | h | h | h | h | h <;> omega
    · rcases h with h | h | h | h | h | h | h | h | h | h <;> omega
  obtain ⟨n1, n2, n3, n4, n5, _⟩ := G.1 nd f1
  have y1 := (X.1 nd f1).1
  have hL := h2.2
  have c0 : fr (17 * r.length + 0) = nI nd := h2.1.1
  have c1 : fr (17 * r.length + 1) = nI ev := h2.1.2.1
  have c2 : fr (17 * r.length + 2) = nI (if ph = 8 then 4 else ph) := h2.1.2.2.1
  have c8 : fr (17 * r.length + 8) = x_ix (m_ch g r) := h2.1.2.2.2.2.2.2.2.2.1
  have c9 : fr (17 * r.length + 9) = nI (m_fc r) := h2.1.2.2.2.2.2.2.2.2.2.1
  have c10 : fr (17 * r.length + 10) = nI bv := h2.1.2.2.2.2.2.2.2.2.2.2.1
  have hbb : 17 * r.length + 17 ≤ 11900 := by omega
  have e0 : m_exit g v tgt t pp ((nd, ev, ph, rm), (gt, x0, x1, x2), (la, bv, bx, ty), dt, sc, sr, tg, pl) r s = if tgt = some r.length then
      (if gO g nd = 17 ∨ gO g nd = 18 then m_ev g ((gK g nd).getD 0 0) ev (((nd, ev, 5, []), (0, x0, x1, x2), (la, m_cv g nd, v, ty), dt, sc, sr, tg, pl) :: r) (m_cs g nd ev v s)
      else m_dlv r v s)
    else if ph = 0 ∧ gO g nd = 15 then (0, 0, none, 0, 0, ((nd, ev, 3, rm), (1, x0, x1, x2), (la, bv, bx, t), v, sc, sr, tgt, pp) :: r, s)
    else (3, v, tgt, t, pp, r, s) := rfl
  rw [e0] at H
  refine x_go (N := N + 7) (by omega) (show ¬ (6 : Int32) = 7 by decide) ?_
  refine br_f (by decide) (br_t (by decide) ?_)
  refine br_f (xx_ne (a := r.length + 1) (b := 0) (by omega) (by omega) (by decide)) ?_
  refine x_top r.length ?_
  rw [nI_pred]
  by_cases ha : tgt = some r.length
  · rw [if_pos ha] at H
    subst ha
    obtain ⟨t1, t2⟩ := w_tg_t ht
    have t1 : ph = 1 := t1
    subst t1
    refine br_t rfl ?_
    refine ⟨xx_i 0 (by omega), ?_⟩
    rw [xx_c 0 0 (by omega), c0]
    refine xx_n n4 ?_
    rw [y1]
    have arr : gO g nd = 17 ∨ gO g nd = 18 → wX_arrive_26 (fun u => xR post (N + 7) (i + 1) u) (nI (17 * r.length)) f_openCount f_typeCount (nI (sPr s)) (nI (gD g)) (nI (gF g)) (x_z0.1) (x_z0.2.1) (x_z0.2.2.1) (x_z0.2.2.2.1) (x_z0.2.2.2.2) (nI (sBe s)) (nI (r.length + 1)) 6 cn ce re (nI (m_fc (((nd, ev, 1, rm), (gt, x0, x1, x2), (la, bv, bx, ty), dt, sc, sr, tg, pl) :: r))) (x_ix (m_ch g (((nd, ev, 1, rm), (gt, x0, x1, x2), (la, bv, bx, ty), dt, sc, sr, tg, pl) :: r))) (x_tg (some r.length)) v ey ep a_nodeOp a_nodeA a_nodeB a_nodeParts a_nodeSize a_slotSize a_slotParams a_openLists a_typeParent (sCe s) (sLo s) sv sh (sOu s) fr := by
      intro o
      rw [if_pos o] at H
      have hb : bv = 0 := by
        rcases f4 with z | ⟨_, _, z⟩
        · exact z
        · rcases z with ⟨_, z⟩ | z | z
          · have z : gO g nd = 9 := z
            omega
          · cases z
          · cases z
      subst hb
      have hle : 1 ≤ (gK g nd).length := fo_lst (G.1 nd f1) (by omega) (by unfold fo_least; rw [if_neg (by omega), if_neg (by omega), if_neg (by omega)])
      obtain ⟨cl, cs, hK⟩ : ∃ a t, gK g nd = a :: t := by
        cases hK : gK g nd with
        | nil => rw [hK] at hle; exact absurd hle (by decide)
        | cons a t => exact ⟨a, t, rfl⟩
      have hcn := (x_K1 G f1 cl cs hK).1
      have hVc : V cl := (n5 cl (by rw [hK]; exact List.mem_cons_self ..)).1
      have eget : (gK g nd).getD 0 0 = cl := by rw [hK]; rfl
      rw [eget] at H
      have gl1 := m_cs_gl (g := g) (n := nd) (e := ev) (v := v) (s := s)
      have hr2 : r.length + 2 ≤ 700 := by
        rcases FW with z | z
        · exact w_len (z.1.2.2.2.2.2.2.2.2.1 (by show (1 : Nat) ≠ 7; decide)) (by show 1 ≤ Z nd; exact n2)
        · exact w_len (z.1.1.2.2.2.2.2.2.2.2.1 (by show (1 : Nat) ≠ 7; decide)) (by show 1 ≤ Z nd; exact n2)
      refine xx_r 8 (by omega) ?_
      rw [c8]
      refine x_clR (r := r) (ph := 5) (gt := 0) (ty := ty) (sr := sr) (x0 := x0) (x1 := x1) (x2 := x2) (la := la) (dt := dt) (pl := pl) (sc := sc) (tg := tg) (cl := cl) (s := s) (fr := fr) G X (Or.inl rfl) f1 f2 (by omega) (by omega) hcn (by omega) c0 c1 c8 c9 c10 hL (xSp_d rfl h1) (fun sv' sh' fr' j1 j2 => ?_)
      rw [show sGl s = sGl (m_cs g nd ev v s) from gl1.1.symm] at j1 j2
      exact x_pcR (p := 5) (q := 1) (r := r) (ph := 5) (gt := 0) (bv := m_cv g nd) (bx := v) (c := cl) (cs := []) (s := m_cs g nd ev v s) (sv := sv') (sh := sh') (fr := fr') G X (by decide) hVc f2 (fun c' cs' z => by cases z) j1 j2 (by omega) (by rw [gl1.2]; exact hs.1) hi rfl rfl rfl H
    refine fb_if (nI_eq (b := 17) (by omega) (by decide)) (fun o => arr (Or.inl o)) (fun o => ?_)
    refine fb_if (nI_eq (b := 18) (by omega) (by decide)) (fun o2 => arr (Or.inr o2)) (fun o2 => ?_)
    rw [if_neg (by omega)] at H
    exact x_finR (p := 6) (q := 1) (f := ((nd, ev, 1, rm), (gt, x0, x1, x2), (la, bv, bx, ty), dt, sc, sr, tg, pl)) (sv := sv) (sh := sh) (fr := fr) h1 h2 (w_bdv f4) (by omega) hi rfl H
  · rw [if_neg ha] at H
    have htr := w_tg_r ht ha
    have POP : ¬ (ph = 0 ∧ gO g nd = 15) → wX_leaveFrame_75 (fun u => xR post (N + 7) (i + 1) u) f_openCount f_typeCount (nI (sPr s)) (nI (gD g)) (nI (gF g)) (x_z0.1) (x_z0.2.1) (x_z0.2.2.1) (x_z0.2.2.2.1) (x_z0.2.2.2.2) (nI (sBe s)) (nI (r.length + 1)) 6 cn ce re (nI (m_fc (((nd, ev, ph, rm), (gt, x0, x1, x2), (la, bv, bx, ty), dt, sc, sr, tg, pl) :: r))) (x_ix (m_ch g (((nd, ev, ph, rm), (gt, x0, x1, x2), (la, bv, bx, ty), dt, sc, sr, tg, pl) :: r))) (x_tg tgt) v ey ep a_nodeOp a_nodeA a_nodeB a_nodeParts a_nodeSize a_slotSize a_slotParams a_openLists a_typeParent (sCe s) (sLo s) sv sh (sOu s) fr := by
      intro o
      rw [if_neg o] at H
      refine x_pop (f := ((nd, ev, ph, rm), (gt, x0, x1, x2), (la, bv, bx, ty), dt, sc, sr, tg, pl)) h1 h2 (w_bdv f4) (by omega) (fun sv' sh' hs' => ?_)
      refine H 7 1 rfl _ ?_
      exact ⟨cn, ce, re, x_tg tgt, v, ey, ep, sv', sh', fr, hs', hL, fun z => (by cases z), fun z => (by cases z), fun _ => ⟨rfl, rfl, hh⟩, rfl⟩
    refine br_f (x_tgr htr (by omega)) ⟨xx_i 2 (by omega), ?_⟩
    rw [xx_c 2 2 (by omega), c2]
    have e1 : nI (if ph = 8 then 4 else ph) = 0 ↔ ph = 0 := by
      rw [show (0 : Int32) = nI 0 from rfl, nI_eq (by split <;> omega) (by decide)]
      split <;> omega
    refine fb_if e1 (fun z => ?_) (fun z => POP (fun y => z y.1))
    refine ⟨xx_i 0 (by omega), ?_⟩
    rw [xx_c 0 0 (by omega), c0]
    refine ⟨vp_in_nI n4 (by decide), ?_⟩
    rw [nI_clamp (by omega), y1]
    refine fb_if (nI_eq (b := 15) (by omega) (by decide)) (fun o => ?_) (fun o => POP (fun y => o y.2))
    rw [if_pos ⟨z, o⟩] at H
    subst z
    have hb : bv = 0 := by
      rcases f4 with z | ⟨_, _, z⟩
      · exact z
      · rcases z with ⟨z, _⟩ | z | z <;> cases z
    subst hb
    refine xx_w 2 (by omega) ?_
    refine xx_w 15 (by omega) ?_
    refine xx_w 14 (by omega) ?_
    refine xx_w 13 (by omega) ?_
    refine xx_w 16 (by omega) ?_
    refine H 7 1 rfl _ ?_
    refine ⟨cn, ce, re, x_tg tgt, v, ey, ep, sv, sh, upd (upd (upd (upd (upd fr (17 * r.length + 2) 3) (17 * r.length + 15) (x_tg tgt)) (17 * r.length + 14) v) (17 * r.length + 13) ey) (17 * r.length + 16) ep, xSp_c rfl (xSp_d rfl h1), ⟨xF_hold h2.1 hh, xL_keep hL ?_⟩, fun _ f r z z1 => (by injection z with z2 z3; rw [← z2] at z1; cases z1), fun z => (by cases z), fun z => (by cases z), rfl⟩
    intro j hj
    rw [pk_un (by omega), pk_un (by omega), pk_un (by omega), pk_un (by omega), pk_un (by omega)]
end
end
section
/-! the class's side: the run -/
section
variable {g : mG} {V : Nat → Prop} {Z : Nat → Nat} {pa : Nat → Option Nat} {T : Nat} {f_openCount f_typeCount : Int32} {a_nodeOp a_nodeA a_nodeB a_nodeParts a_nodeSize a_slotSize a_slotParams a_openLists a_typeParent : Nat → Int32} {s : St} {n : Nat} {ca inf mo cn ce re et ex ey ep v : Int32} {sv sh fr : Nat → Int32} {l r : List Fr} {f : Fr} {P : SX → Prop} {post : Int32 → SX → Prop} {N i p q : Nat}
theorem x_sim (G : g_w g V Z pa T) (X : xG g V Z f_openCount f_typeCount a_nodeOp a_nodeA a_nodeB a_nodeParts a_nodeSize a_slotSize a_slotParams a_openLists a_typeParent) {m : MS} {u : SX} (W : w_m g V Z pa m) (ht : m.1 < 4) (hpr : u_p m < 1000000) (R : px_R g f_openCount f_typeCount a_nodeOp a_nodeA a_nodeB a_nodeParts a_nodeSize a_slotSize a_slotParams a_openLists a_typeParent m u) (hi : i + 8 < 10000000) (H : ∀ p q, p + q = 8 → ∀ u', px_R g f_openCount f_typeCount a_nodeOp a_nodeA a_nodeB a_nodeParts a_nodeSize a_slotSize a_slotParams a_openLists a_typeParent (m_step g m) u' → xR post (N + p) (i + q) u') : xR post (N + 8) i u := by
  obtain ⟨t, v, tgt, ty, pp, l, s⟩ := m
  have ht : t < 4 := ht
  have hpr : sPr s < 1000000 := hpr
  obtain ⟨a1, a2, a3, _, b0, b1, b2, b3⟩ := W
  have hs : w_s g s := ⟨a2, a3⟩
  obtain ⟨cn, ce, re, et, ex, ey, ep, sv, sh, fr, h1, h2, r0, r1, r3, rfl⟩ := R
  have ht : t = 0 ∨ t = 1 ∨ t = 2 ∨ t = 3 := by omega
  rcases ht with rfl | rfl | rfl | rfl
  · obtain ⟨f, r, rfl, c1, c2, c3⟩ := b0 rfl
    have hl := w_ln G c2
    have hl : r.length + 1 ≤ 700 := hl
    have hfr : m_fc r ≤ gD g := Nat.le_trans (Nat.le_add_right _ _) a1
    have r0 := r0 rfl f r rfl
    obtain ⟨⟨nd, ev, ph, rm⟩, ⟨gt, x0, x1, x2⟩, ⟨la, bv, bx, ty⟩, dt, sc, sr, tg, pl⟩ := f
    have c1 : ph = 0 ∨ ph = 1 ∨ ph = 3 := c1
    have q4 : ph ≠ 4 := by omega
    have q8 : ph ≠ 8 := by omega
    refine x_proR (p := 4) (q := 0) (sv := sv) (sh := sh) (fr := fr) (re := re) G X c2.1 c2.2 q4 q8 hfr (by omega) hs hpr h1 h2 (fun z _ _ => ?_) hi rfl H
    exact r0 (by show ph = 1; omega)
  · obtain ⟨c1, c2⟩ := b1 rfl
    cases l with
    | nil => exact absurd rfl c1
    | cons f r =>
      have hl := w_ln G c2
      have hl : r.length + 1 ≤ 700 := hl
      have hfr : m_fc r ≤ gD g := Nat.le_trans (Nat.le_add_right _ _) a1
      have r1 : re = v := r1 rfl
      subst r1
      obtain ⟨⟨nd, ev, ph, rm⟩, ⟨gt, x0, x1, x2⟩, ⟨la, bv, bx, ty⟩, dt, sc, sr, tg, pl⟩ := f
      exact x_takeR (sv := sv) (sh := sh) (fr := fr) G X c2.1 c2.2 hfr (by omega) hs hpr h1 h2 hi H
  · obtain ⟨f, r, rfl, c1, c2⟩ := b2 rfl
    obtain ⟨hne7, hne6, hne1, hne3⟩ := w_48 c1
    have efc : m_fc (f :: r) = m_fc r := w_fc_ne hne6
    have ech : m_ch g (f :: r) = m_ch g r := (if_neg hne7).trans (if_neg (fun z => hne1 z.1))
    show xR post (N + 8) i (xU g f_openCount f_typeCount a_nodeOp a_nodeA a_nodeB a_nodeParts a_nodeSize a_slotSize a_slotParams a_openLists a_typeParent x_z0 s (r.length + 1) (nI (m_fc (f :: r))) (x_ix (m_ch g (f :: r))) 5 cn ce re et ex ey ep sv sh fr)
    rw [efc, ech]
    obtain ⟨⟨nd, ev, ph, rm⟩, ⟨gt, x0, x1, x2⟩, ⟨la, bv, bx, ty⟩, dt, sc, sr, tg, pl⟩ := f
    exact x_srchR (sv := sv) (sh := sh) (fr := fr) G X c2.1 c2.2 c1 hs h1 h2 hi H
  · obtain ⟨c1, c2, c3⟩ := b3 rfl
    obtain ⟨g1, g2, g3⟩ := r3 rfl
    have g1 : ex = v := g1
    have g2 : et = x_tg tgt := g2
    subst g1 g2
    cases l with
    | nil =>
      have htn : tgt = none := by
        cases htg : tgt with
        | none => rfl
        | some k =>
          obtain ⟨q, r', a1, _⟩ := c2 k htg
          exact absurd (List.suffix_nil.mp a1) (by simp)
      obtain ⟨g4, g5⟩ := g3 htn
      have g4 : ey = nI ty := g4
      have g5 : ep = pp := g5
      subst g4 g5
      show xR post (N + 8) i (xU g f_openCount f_typeCount a_nodeOp a_nodeA a_nodeB a_nodeParts a_nodeSize a_slotSize a_slotParams a_openLists a_typeParent x_z0 s 0 (nI 0) (-1) 6 cn ce re (x_tg tgt) ex (nI ty) ep sv sh fr)
      refine x_go (N := N + 7) (by omega) (show ¬ (6 : Int32) = 7 by decide) ?_
      refine br_f (by decide) (br_t (by decide) ?_)
      refine br_t rfl ?_
      show xR post (N + 7) (i + 1) (xU g f_openCount f_typeCount a_nodeOp a_nodeA a_nodeB a_nodeParts a_nodeSize a_slotSize a_slotParams a_openLists a_typeParent (1, 0, nI ty, ex, ep) s 0 (nI 0) (-1) 7 cn ce re (x_tg tgt) ex (nI ty) ep sv sh fr)
      refine H 7 1 rfl _ ?_
      exact ⟨cn, ce, re, x_tg tgt, ex, nI ty, ep, sv, sh, fr, h1, h2, fun z => (by cases z), fun z => (by cases z), fun z => (by cases z), rfl⟩
    | cons f r =>
      have FW : w_l g V Z pa 1 (f :: r) ∨ w_l g V Z pa 0 (f :: r) ∧ (gO g (fr_nd f) = 12 ∨ gO g (fr_nd f) = 14 ∨ gO g (fr_nd f) = 19) := by
        rcases c1 with z | ⟨f', r', e, z1, z2⟩
        · exact Or.inl z
        · injection e with e1 e2
          subst e1 e2
          exact Or.inr ⟨z1, z2⟩
      obtain ⟨⟨nd, ev, ph, rm⟩, ⟨gt, x0, x1, x2⟩, ⟨la, bv, bx, ty⟩, dt, sc, sr, tg, pl⟩ := f
      exact x_exitR (sv := sv) (sh := sh) (fr := fr) G X FW c2 hs h1 h2 g3 hi H
theorem x_run (G : g_w g V Z pa T) (X : xG g V Z f_openCount f_typeCount a_nodeOp a_nodeA a_nodeB a_nodeParts a_nodeSize a_slotSize a_slotParams a_openLists a_typeParent) : ∀ (b : Nat) {m : MS} {u : SX} {N i : Nat}, w_m g V Z pa m → u_m g Z m ≤ b → u_p m + b < 1000000 → px_R g f_openCount f_typeCount a_nodeOp a_nodeA a_nodeB a_nodeParts a_nodeSize a_slotSize a_slotParams a_openLists a_typeParent m u → i + 8 * b < 10000000 → (4 ≤ (m_it g b m).1 → ∀ N i u', i < 10000000 → px_R g f_openCount f_typeCount a_nodeOp a_nodeA a_nodeB a_nodeParts a_nodeSize a_slotSize a_slotParams a_openLists a_typeParent (m_it g b m) u' → xR post (N + 1) i u') → xR post (8 * b + 1 + N) i u
  | 0, m, u, N, i, W, hu, hp, R, hi, H => by
    have h4 : 4 ≤ m.1 := by
      rcases Nat.lt_or_ge m.1 4 with z | z
      · have := (w_step G W z).2
        omega
      · exact z
    have := H h4 N i u (by omega) R
    rw [Nat.mul_zero, Nat.zero_add, Nat.add_comm]
    exact this
  | b + 1, m, u, N, i, W, hu, hp, R, hi, H => by
    rcases Nat.lt_or_ge m.1 4 with z | z
    · obtain ⟨⟨s1, s2, s3⟩, s4⟩ := w_step G W z
      have e : 8 * (b + 1) + 1 + N = (8 * b + 1 + N) + 8 := by omega
      rw [e]
      refine x_sim G X W z (by omega) R (by omega) (fun p q hpq u' R' => ?_)
      have e2 : 8 * b + 1 + N + p = 8 * b + 1 + (N + p) := by omega
      rw [e2]
      exact x_run G X b s1 (by omega) (by omega) R' (by omega) H
    · rw [m_it_done z] at H
      have := H z (8 * (b + 1) + N) i u (by omega) R
      have e : 8 * (b + 1) + 1 + N = 8 * (b + 1) + N + 1 := by omega
      rw [e]
      exact this
theorem x_endl {fr : Nat → Int32} {s : St} : ∀ {l : List Fr} {w : Nat}, w_l g V Z pa w l → ∀ {ca inf : Int32} {sv sh : Nat → Int32}, xSp sv sh (sGl s) l → xL g fr (sGl s) l → ∀ (c n : Nat), c + l.length ≤ 700 → l.length < n → (∀ ca' inf' sv' sh', xSp sv' sh' (sGl s) [] → post 2 (xU g 0 f_typeCount a_nodeOp a_nodeA a_nodeB a_nodeParts a_nodeSize (upd a_slotSize 6 0) a_slotParams a_openLists a_typeParent x_z0 s 0 ca' inf' mo cn ce re et ex ey ep sv' sh' fr)) → wX_run_42 post n (nI c) f_openCount f_typeCount (nI (sPr s)) (nI (gD g)) (nI (gF g)) (x_z0.1) (x_z0.2.1) (x_z0.2.2.1) (x_z0.2.2.2.1) (x_z0.2.2.2.2) (nI (sBe s)) (nI l.length) mo cn ce re ca inf et ex ey ep a_nodeOp a_nodeA a_nodeB a_nodeParts a_nodeSize a_slotSize a_slotParams a_openLists a_typeParent (sCe s) (sLo s) sv sh (sOu s) fr
  | _, _, _, _, _, _, _, _, _, _, 0, _, hn, _ => by omega
  | [], _, _, ca, inf, sv, sh, h1, h2, c, n + 1, hc, hn, H => by
    rw [wX_run_42]
    exact br_c (fun _ => nm_e (H _ _ _ _ h1)) (fun _ => br_t (by decide) (nm_e (H _ _ _ _ h1)))
  | f :: r, w, W, ca, inf, sv, sh, h1, h2, c, n + 1, hc, hn, H => by
    have hc : c + (r.length + 1) ≤ 700 := hc
    have hn : r.length + 1 < n + 1 := hn
    rw [wX_run_42]
    refine br_f (nI_ge (b := 700) (by omega) (by decide)) (br_f (nI_nle (n := r.length + 1) (by omega) (by omega)) ?_)
    refine x_pop (f := f) h1 h2 (w_bdv W.1.2.2.2.1) (by omega) (fun sv' sh' hs' => ?_)
    exact nm_r (nI_1 c) (x_endl W.2 hs' h2.2 (c + 1) n (by omega) (by omega) H)
/-- the end of the run: what is left when it is done -/
theorem x_end (G : g_w g V Z pa T) {m : MS} {u : SX} (W : w_m g V Z pa m) (h4 : 4 ≤ m.1) (R : px_R g f_openCount f_typeCount a_nodeOp a_nodeA a_nodeB a_nodeParts a_nodeSize a_slotSize a_slotParams a_openLists a_typeParent m u) (hi : i < 10000000) (H : ∀ ca' inf' mo cn ce re et ex ey ep sv' sh' fr, xSp sv' sh' (sGl m.2.2.2.2.2.2) [] → post (x_z m).1 (xU g 0 f_typeCount a_nodeOp a_nodeA a_nodeB a_nodeParts a_nodeSize (upd a_slotSize 6 0) a_slotParams a_openLists a_typeParent (x_z m) m.2.2.2.2.2.2 0 ca' inf' mo cn ce re et ex ey ep sv' sh' fr)) : xR post (N + 1) i u := by
  obtain ⟨t, v, tgt, ty, pp, l, s⟩ := m
  obtain ⟨cn, ce, re, et, ex, ey, ep, sv, sh, fr, h1, h2, r0, r1, r3, rfl⟩ := R
  obtain ⟨_, _, _, hE, _⟩ := W
  rcases hE h4 with ⟨rfl, rfl⟩ | ⟨rfl, rfl⟩ | ⟨rfl, w, Wl⟩
  · skip
    refine br_f (nI_ge (b := 10000000) hi (by decide)) (br_t rfl ⟨1, ?_⟩)
    rw [wX_run_42]
    exact br_f (by decide) (br_t (show nI 0 ≤ 0 by decide) (nm_e (H _ _ _ _ _ _ _ _ _ _ _ _ _ h1)))
  · skip
    refine br_f (nI_ge (b := 10000000) hi (by decide)) (br_t rfl ⟨1, ?_⟩)
    rw [wX_run_42]
    exact br_f (by decide) (br_t (show nI 0 ≤ 0 by decide) (nm_e (H _ _ _ _ _ _ _ _ _ _ _ _ _ h1)))
  · have Wl : w_l g V Z pa w l := Wl
    have hln := w_ln G Wl
    refine br_f (nI_ge (b := 10000000) hi (by decide)) (br_t rfl ⟨701, ?_⟩)
    exact x_endl Wl h1 h2 0 701 (by omega) (by omega) (fun ca' inf' sv' sh' hs' => H ca' inf' _ _ _ _ _ _ _ _ sv' sh' fr hs')
end
end
section
/-! the reference's side: its state while it runs, its frames, the loop of run -/
def y_bv (bv : Nat) : Int32 := if bv = 0 then -1 else nI bv
/-- where the frame below which h frames lie is kept -/
def y_at (r : List Fr) (h : Nat) : Nat := m_yh (r.drop (r.length - h))
def y_tg (tgt : Option Nat) (r : List Fr) : Int32 := match tgt with
  | none => -1
  | some h => nI (y_at r h)
/-- a search's frame, at k -/
def yS (g : mG) (c_node c_got c_handle c_pTarget c_pPlace c_act c_mode c_bVar c_pType c_v0 c_v1 c_v2 c_last c_bVal c_pVal : Nat → Int32) (k nd ty : Nat) (dt go : Int32) : Prop := c_node k = -1 ∧ c_v0 k = nI ty ∧ c_v1 k = dt ∧ c_v2 k = nI nd ∧ c_mode k = (if gO g nd = 20 then 0 else 1) ∧ c_got k = go
/-- a list's frame, at k; b: its binding is there too -/
def yA (g : mG) (c_node c_got c_handle c_pTarget c_pPlace c_act c_mode c_bVar c_pType c_v0 c_v1 c_v2 c_last c_bVal c_pVal : Nat → Int32) (b : Prop) (k : Nat) (f : Fr) (r : List Fr) : Prop := match f with
  | ((nd, ev, ph, rm), (gt, x0, x1, x2), (la, bv, bx, ty), dt, sc, sr, tg, pl) => c_node k = nI nd ∧ c_act k = nI ev ∧ c_got k = nI gt ∧ c_mode k = (if ph = 3 ∨ ph = 5 ∨ ph = 6 then 1 else 0) ∧ (b → c_bVar k = y_bv bv ∧ (bv ≠ 0 → c_bVal k = bx)) ∧
    (ph = 0 ∨ ph = 2 ∨ (ph = 1 ∧ (gO g nd = 13 ∨ gO g nd = 6 ∨ gO g nd = 9)) → 0 < gt → c_v0 k = x0) ∧ (ph = 0 → 1 < gt → c_v1 k = x1) ∧ (ph = 0 → 2 < gt → c_v2 k = x2) ∧
    (ph = 1 → (gO g nd = 7 ∨ gO g nd = 11 ∨ (16 ≤ gO g nd ∧ gO g nd ≤ 18)) ∨ 2 ≤ gt → c_last k = la) ∧ (ph = 1 → gO g nd = 9 ∨ gO g nd = 13 → gt = 1 → la = 0) ∧
    (ph = 3 → c_pVal k = dt ∧ c_pTarget k = y_tg tg r ∧ (tg = none → c_pType k = nI ty ∧ c_pPlace k = pl))
def yF (g : mG) (c_node c_got c_handle c_pTarget c_pPlace c_act c_mode c_bVar c_pType c_v0 c_v1 c_v2 c_last c_bVal c_pVal : Nat → Int32) (f : Fr) (r : List Fr) : Prop :=
  if fr_ph f = 7 then c_bVar (m_yh r - 1) = y_bv (fr_bv f) ∧ (fr_bv f ≠ 0 → c_bVal (m_yh r - 1) = fr_bx f) ∧ ∀ q r', r = q :: r' → c_handle (m_yh r - 1) = nI (y_at r' (fr_sr q))
  else if fr_ph f = 4 then c_node (m_yh r) = nI (fr_nd f) ∧ c_mode (m_yh r) = 0 ∧ c_bVar (m_yh r) = -1 ∧ yS g c_node c_got c_handle c_pTarget c_pPlace c_act c_mode c_bVar c_pType c_v0 c_v1 c_v2 c_last c_bVal c_pVal (m_yh r + 1) (fr_nd f) (fr_ty f) (fr_dt f) (if fr_sr f = r.length then nI (m_yh r) else nI (y_at r (fr_sr f)) - 1)
  else if fr_ph f = 8 then yS g c_node c_got c_handle c_pTarget c_pPlace c_act c_mode c_bVar c_pType c_v0 c_v1 c_v2 c_last c_bVal c_pVal (m_yh r) (fr_nd f) (fr_ty f) (fr_dt f) (nI (y_at r (fr_sr f)) - 1)
  else yA g c_node c_got c_handle c_pTarget c_pPlace c_act c_mode c_bVar c_pType c_v0 c_v1 c_v2 c_last c_bVal c_pVal True (m_yh r) f r
def yL (g : mG) (c_node c_got c_handle c_pTarget c_pPlace c_act c_mode c_bVar c_pType c_v0 c_v1 c_v2 c_last c_bVal c_pVal : Nat → Int32) : List Fr → Prop
  | [] => True
  | f :: r => yF g c_node c_got c_handle c_pTarget c_pPlace c_act c_mode c_bVar c_pType c_v0 c_v1 c_v2 c_last c_bVal c_pVal f r ∧ yL g c_node c_got c_handle c_pTarget c_pPlace c_act c_mode c_bVar c_pType c_v0 c_v1 c_v2 c_last c_bVal c_pVal r
def yGl (gv gh : Nat → Int32) (gl : Nat → Option Int32) : Prop := ∀ j, j < 4 → x_sp (gv (8 + j)) (gh (8 + j)) (gl (8 + j))
def yU (g : mG) (h_count h_open h_types : Int32) (c_sort c_op c_na c_nb c_up c_val c_size c_params c_parent : Nat → Int32) (z : Int32 × Int32 × Int32 × Int32 × Int32) (rn : Int32) (be : Nat) (s : St) (sp : Nat) (ret xt xv xy xp ha exi : Int32) (gv gh : Nat → Int32) (c_node c_got c_handle c_pTarget c_pPlace c_act c_mode c_bVar c_pType c_v0 c_v1 c_v2 c_last c_bVal c_pVal : Nat → Int32) : SY := (nI (gD g), nI (gF g), h_count, h_open, h_types, nI sp, ret, xt, xv, xy, xp, ha, exi, rn, z.1, z.2.1, z.2.2.1, z.2.2.2.1, z.2.2.2.2, nI be, nI (sPr s), c_sort, c_op, c_na, c_nb, c_up, c_val, c_size, c_params, c_parent, gv, sCe s, sLo s, gh, c_node, c_got, c_handle, c_pTarget, c_pPlace, c_act, c_mode, c_bVar, c_pType, c_v0, c_v1, c_v2, c_last, c_bVal, c_pVal, sOu s)
def y_z0 (oc : Int32) : Int32 × Int32 × Int32 × Int32 × Int32 := (oc, 0, 0, 0, -1)
def y_z (oc : Int32) (m : MS) : Int32 × Int32 × Int32 × Int32 × Int32 := match m with
  | (0, _) => (oc, 0, 0, 0, -1)
  | (1, _) => (oc, 0, 0, 0, -1)
  | (2, _) => (oc, 0, 0, 0, -1)
  | (3, _) => (oc, 0, 0, 0, -1)
  | m => x_z m
def y_rn : Nat → Int32
  | 0 => 1
  | 1 => 1
  | 2 => 1
  | 3 => 1
  | _ => 0
def y_fw (g : mG) : List Fr → Nat
  | [] => 0
  | f :: _ => if gO g (fr_nd f) = 10 then 1 else 0
def py_R (g : mG) (h_count h_open h_types : Int32) (c_sort c_op c_na c_nb c_up c_val c_size c_params c_parent : Nat → Int32) (m : MS) (u : SY) : Prop := ∃ (oc : Int32) (be sp : Nat) (ret xt xv xy xp ha exi : Int32) (gv gh : Nat → Int32) (c_node c_got c_handle c_pTarget c_pPlace c_act c_mode c_bVar c_pType c_v0 c_v1 c_v2 c_last c_bVal c_pVal : Nat → Int32), yGl gv gh (sGl m.2.2.2.2.2.2) ∧ (m.1 < 4 → sp = m_yh m.2.2.2.2.2.1 ∧ yL g c_node c_got c_handle c_pTarget c_pPlace c_act c_mode c_bVar c_pType c_v0 c_v1 c_v2 c_last c_bVal c_pVal m.2.2.2.2.2.1) ∧
  (m.1 = 0 → ha = 0 ∧ exi = 0 ∧ be + y_fw g m.2.2.2.2.2.1 = sBe m.2.2.2.2.2.2) ∧ (m.1 = 1 → ha = 1 ∧ exi = 0 ∧ ret = m.2.1) ∧ (m.1 = 2 → exi = 0) ∧ (m.1 = 3 → ha = 0 ∧ exi = 1 ∧ xv = m.2.1 ∧ xt = y_tg m.2.2.1 m.2.2.2.2.2.1 ∧ (m.2.2.1 = none → xy = nI m.2.2.2.1 ∧ xp = m.2.2.2.2.1)) ∧ (1 ≤ m.1 → be = sBe m.2.2.2.2.2.2) ∧
  u = yU g h_count h_open h_types c_sort c_op c_na c_nb c_up c_val c_size c_params c_parent (y_z oc m) (y_rn m.1) be m.2.2.2.2.2.2 sp ret xt xv xy xp ha exi gv gh c_node c_got c_handle c_pTarget c_pPlace c_act c_mode c_bVar c_pType c_v0 c_v1 c_v2 c_last c_bVal c_pVal
/-- the program as the reference keeps it -/
def yT (g : mG) (V : Nat → Prop) (h_count h_open h_types : Int32) (c_sort c_op c_na c_nb c_up c_val c_size c_params c_parent : Nat → Int32) : Prop :=
  (∀ n, V n → (gO g n = 27 → c_sort n = 1 ∧ c_val n = gN g n) ∧ (gO g n = 28 → c_sort n = 2 ∧ c_val n = nI (gA g n)) ∧ (gO g n ≤ 26 → c_sort n = 0 ∧ c_op n = nI (gO g n)) ∧ (fo_ma (gO g n) → c_na n = nI (gA g n)) ∧ (16 ≤ gO g n → gO g n ≤ 18 → c_nb n = nI (gB g n))) ∧
  (∀ n, V n → ∀ (h_depth h_fuel h_sp h_ret h_xTarget h_xVal h_xType h_xPlace h_have h_exiting h_running h_outcome h_value h_error h_datum h_place h_beats h_printed : Int32) (c_global c_cells c_locals c_has c_node c_got c_handle c_pTarget c_pPlace c_act c_mode c_bVar c_pType c_v0 c_v1 c_v2 c_last c_bVal c_pVal c_out : Nat → Int32) (post : Int32 → Prop), post (nI (gK g n).length) → wpY_parts post (h_depth, h_fuel, h_count, h_open, h_types, h_sp, h_ret, h_xTarget, h_xVal, h_xType, h_xPlace, h_have, h_exiting, h_running, h_outcome, h_value, h_error, h_datum, h_place, h_beats, h_printed, c_sort, c_op, c_na, c_nb, c_up, c_val, c_size, c_params, c_parent, c_global, c_cells, c_locals, c_has, c_node, c_got, c_handle, c_pTarget, c_pPlace, c_act, c_mode, c_bVar, c_pType, c_v0, c_v1, c_v2, c_last, c_bVal, c_pVal, c_out) (nI n)) ∧
  (∀ n, V n → ∀ j, j < 1000 → ∀ (h_depth h_fuel h_sp h_ret h_xTarget h_xVal h_xType h_xPlace h_have h_exiting h_running h_outcome h_value h_error h_datum h_place h_beats h_printed : Int32) (c_global c_cells c_locals c_has c_node c_got c_handle c_pTarget c_pPlace c_act c_mode c_bVar c_pType c_v0 c_v1 c_v2 c_last c_bVal c_pVal c_out : Nat → Int32) (post : Int32 → Prop), post (fo_nx (gK g n) j) → wpY_part post (h_depth, h_fuel, h_count, h_open, h_types, h_sp, h_ret, h_xTarget, h_xVal, h_xType, h_xPlace, h_have, h_exiting, h_running, h_outcome, h_value, h_error, h_datum, h_place, h_beats, h_printed, c_sort, c_op, c_na, c_nb, c_up, c_val, c_size, c_params, c_parent, c_global, c_cells, c_locals, c_has, c_node, c_got, c_handle, c_pTarget, c_pPlace, c_act, c_mode, c_bVar, c_pType, c_v0, c_v1, c_v2, c_last, c_bVal, c_pVal, c_out) (nI n) (nI j)) ∧
  (∀ n, V n → gO g n = 12 → ∀ (h_depth h_fuel h_sp h_ret h_xTarget h_xVal h_xType h_xPlace h_have h_exiting h_running h_outcome h_value h_error h_datum h_place h_beats h_printed : Int32) (c_global c_cells c_locals c_has c_node c_got c_handle c_pTarget c_pPlace c_act c_mode c_bVar c_pType c_v0 c_v1 c_v2 c_last c_bVal c_pVal c_out : Nat → Int32) (post : Int32 → Prop), post (nI (gR g n)) → wpY_blockAround post (h_depth, h_fuel, h_count, h_open, h_types, h_sp, h_ret, h_xTarget, h_xVal, h_xType, h_xPlace, h_have, h_exiting, h_running, h_outcome, h_value, h_error, h_datum, h_place, h_beats, h_printed, c_sort, c_op, c_na, c_nb, c_up, c_val, c_size, c_params, c_parent, c_global, c_cells, c_locals, c_has, c_node, c_got, c_handle, c_pTarget, c_pPlace, c_act, c_mode, c_bVar, c_pType, c_v0, c_v1, c_v2, c_last, c_bVal, c_pVal, c_out) (nI n) (nI (gA g n))) ∧
  (∀ f, f < 6 → c_size f = nI (gC g f) ∧ gC g f ≤ 56 ∧ c_params f = nI (gP g f)) ∧
  (∃ p : Nat → Nat, (∀ t, t < 16 → c_parent t = nI (p t) ∧ (1 ≤ t → p t < t)) ∧ ∀ t a, t ≤ 15 → gI g t a = fo_ia p 16 t a)
theorem yy_w {k N : Nat} {a : Nat → Int32} {w : Int32} {Q : (Nat → Int32) → Prop} (v : Int32) (hk : k < N) (hv : w = v) (h : Q (upd a k v)) (hN : N < 2 ^ 31 := by decide) : vp_in (nI k) N ∧ ∀ y, y = upd a (nI k).toNatClampNeg w → Q y := by
  subst hv
  rw [nI_clamp (by omega)]
  exact ⟨vp_in_nI hk hN, fun y hy => by rw [hy]; exact h⟩
def yR (post : Int32 → SY → Prop) (N i : Nat) (u : SY) : Prop := match u with
  | (h_depth, h_fuel, h_count, h_open, h_types, h_sp, h_ret, h_xTarget, h_xVal, h_xType, h_xPlace, h_have, h_exiting, h_running, h_outcome, h_value, h_error, h_datum, h_place, h_beats, h_printed, c_sort, c_op, c_na, c_nb, c_up, c_val, c_size, c_params, c_parent, c_global, c_cells, c_locals, c_has, c_node, c_got, c_handle, c_pTarget, c_pPlace, c_act, c_mode, c_bVar, c_pType, c_v0, c_v1, c_v2, c_last, c_bVal, c_pVal, c_out) => wY_run_97 post N (nI i) h_depth h_fuel h_count h_open h_types h_sp h_ret h_xTarget h_xVal h_xType h_xPlace h_have h_exiting h_running h_outcome h_value h_error h_datum h_place h_beats h_printed c_sort c_op c_na c_nb c_up c_val c_size c_params c_parent c_global c_cells c_locals c_has c_node c_got c_handle c_pTarget c_pPlace c_act c_mode c_bVar c_pType c_v0 c_v1 c_v2 c_last c_bVal c_pVal c_out
theorem y_go {post : Int32 → SY → Prop} {N i : Nat} {h_depth h_fuel h_count h_open h_types h_sp h_ret h_xTarget h_xVal h_xType h_xPlace h_have h_exiting h_running h_outcome h_value h_error h_datum h_place h_beats h_printed : Int32} {c_sort c_op c_na c_nb c_up c_val c_size c_params c_parent c_global c_cells c_locals c_has c_node c_got c_handle c_pTarget c_pPlace c_act c_mode c_bVar c_pType c_v0 c_v1 c_v2 c_last c_bVal c_pVal c_out : Nat → Int32} (hi : i < 1000000) (h7 : ¬ h_running = 0) (h : wpY_step (fun u => yR post N (i + 1) u) (h_depth, h_fuel, h_count, h_open, h_types, h_sp, h_ret, h_xTarget, h_xVal, h_xType, h_xPlace, h_have, h_exiting, h_running, h_outcome, h_value, h_error, h_datum, h_place, h_beats, h_printed, c_sort, c_op, c_na, c_nb, c_up, c_val, c_size, c_params, c_parent, c_global, c_cells, c_locals, c_has, c_node, c_got, c_handle, c_pTarget, c_pPlace, c_act, c_mode, c_bVar, c_pType, c_v0, c_v1, c_v2, c_last, c_bVal, c_pVal, c_out)) : yR post (N + 1) i (h_depth, h_fuel, h_count, h_open, h_types, h_sp, h_ret, h_xTarget, h_xVal, h_xType, h_xPlace, h_have, h_exiting, h_running, h_outcome, h_value, h_error, h_datum, h_place, h_beats, h_printed, c_sort, c_op, c_na, c_nb, c_up, c_val, c_size, c_params, c_parent, c_global, c_cells, c_locals, c_has, c_node, c_got, c_handle, c_pTarget, c_pPlace, c_act, c_mode, c_bVar, c_pType, c_v0, c_v1, c_v2, c_last, c_bVal, c_pVal, c_out) := by
  show wY_run_97 post (N + 1) (nI i) h_depth h_fuel h_count h_open h_types h_sp h_ret h_xTarget h_xVal h_xType h_xPlace h_have h_exiting h_running h_outcome h_value h_error h_datum h_place h_beats h_printed c_sort c_op c_na c_nb c_up c_val c_size c_params c_parent c_global c_cells c_locals c_has c_node c_got c_handle c_pTarget c_pPlace c_act c_mode c_bVar c_pType c_v0 c_v1 c_v2 c_last c_bVal c_pVal c_out
  rw [wY_run_97]
  refine br_f (nI_ge (b := 1000000) hi (by decide)) (br_f h7 ?_)
  have e : (fun u : SY => match u with | (h_depth_160, h_fuel_160, h_count_160, h_open_160, h_types_160, h_sp_160, h_ret_160, h_xTarget_160, h_xVal_160, h_xType_160, h_xPlace_160, h_have_160, h_exiting_160, h_running_160, h_outcome_160, h_value_160, h_error_160, h_datum_160, h_place_160, h_beats_160, h_printed_160, c_sort_160, c_op_160, c_na_160, c_nb_160, c_up_160, c_val_160, c_size_160, c_params_160, c_parent_160, c_global_160, c_cells_160, c_locals_160, c_has_160, c_node_160, c_got_160, c_handle_160, c_pTarget_160, c_pPlace_160, c_act_160, c_mode_160, c_bVar_160, c_pType_160, c_v0_160, c_v1_160, c_v2_160, c_last_160, c_bVal_160, c_pVal_160, c_out_160) => ∀ y : Int32, y = nI i + 1 → wY_run_97 post N y h_depth_160 h_fuel_160 h_count_160 h_open_160 h_types_160 h_sp_160 h_ret_160 h_xTarget_160 h_xVal_160 h_xType_160 h_xPlace_160 h_have_160 h_exiting_160 h_running_160 h_outcome_160 h_value_160 h_error_160 h_datum_160 h_place_160 h_beats_160 h_printed_160 c_sort_160 c_op_160 c_na_160 c_nb_160 c_up_160 c_val_160 c_size_160 c_params_160 c_parent_160 c_global_160 c_cells_160 c_locals_160 c_has_160 c_node_160 c_got_160 c_handle_160 c_pTarget_160 c_pPlace_160 c_act_160 c_mode_160 c_bVar_160 c_pType_160 c_v0_160 c_v1_160 c_v2_160 c_last_160 c_bVal_160 c_pVal_160 c_out_160) = fun u => yR post N (i + 1) u := by
    funext u
    obtain ⟨h_depth_160, h_fuel_160, h_count_160, h_open_160, h_types_160, h_sp_160, h_ret_160, h_xTarget_160, h_xVal_160, h_xType_160, h_xPlace_160, h_have_160, h_exiting_160, h_running_160, h_outcome_160, h_value_160, h_error_160, h_datum_160, h_place_160, h_beats_160, h_printed_160, c_sort_160, c_op_160, c_na_160, c_nb_160, c_up_160, c_val_160, c_size_160, c_params_160, c_parent_160, c_global_160, c_cells_160, c_locals_160, c_has_160, c_node_160, c_got_160, c_handle_160, c_pTarget_160, c_pPlace_160, c_act_160, c_mode_160, c_bVar_160, c_pType_160, c_v0_160, c_v1_160, c_v2_160, c_last_160, c_bVal_160, c_pVal_160, c_out_160⟩ := u
    refine propext ⟨fun h => h _ (nI_1 i).symm, fun h y hy => ?_⟩
    rw [hy, nI_1]
    exact h
  exact (congrArg (fun Q => wpY_step Q (h_depth, h_fuel, h_count, h_open, h_types, h_sp, h_ret, h_xTarget, h_xVal, h_xType, h_xPlace, h_have, h_exiting, h_running, h_outcome, h_value, h_error, h_datum, h_place, h_beats, h_printed, c_sort, c_op, c_na, c_nb, c_up, c_val, c_size, c_params, c_parent, c_global, c_cells, c_locals, c_has, c_node, c_got, c_handle, c_pTarget, c_pPlace, c_act, c_mode, c_bVar, c_pType, c_v0, c_v1, c_v2, c_last, c_bVal, c_pVal, c_out)) e).mpr h
theorem y_m1s : vp_nar .short ((-1 : Int32).toInt16.toInt32) = -1 := by decide
theorem y_m1b : vp_nar .byte (-1) = -1 := by decide
theorem y_0s : vp_nar .short 0 = 0 := by decide
theorem y_0b : vp_nar .byte 0 = 0 := by decide
theorem y_1b : vp_nar .byte 1 = 1 := by decide
theorem y_1s : vp_nar .short 1 = 1 := by decide
theorem y_push {h_depth h_fuel h_count h_open h_types h_ret h_xTarget h_xVal h_xType h_xPlace h_have h_exiting h_running h_outcome h_value h_error h_datum h_place h_beats h_printed : Int32} {c_sort c_op c_na c_nb c_up c_val c_size c_params c_parent c_global c_cells c_locals c_has c_node c_got c_handle c_pTarget c_pPlace c_act c_mode c_bVar c_pType c_v0 c_v1 c_v2 c_last c_bVal c_pVal c_out : Nat → Int32} {P : SY → Prop} (k n e : Nat) (hk : k < 520) (hn : n < 392) (he : e ≤ 6) (h : P (h_depth, h_fuel, h_count, h_open, h_types, nI (k + 1), h_ret, h_xTarget, h_xVal, h_xType, h_xPlace, h_have, h_exiting, h_running, h_outcome, h_value, h_error, h_datum, h_place, h_beats, h_printed, c_sort, c_op, c_na, c_nb, c_up, c_val, c_size, c_params, c_parent, c_global, c_cells, c_locals, c_has, upd c_node k (nI n), upd c_got k 0, c_handle, c_pTarget, c_pPlace, upd c_act k (nI e), upd c_mode k 0, upd c_bVar k (-1), c_pType, c_v0, c_v1, c_v2, upd c_last k 0, c_bVal, c_pVal, c_out)) : wpY_push P (h_depth, h_fuel, h_count, h_open, h_types, nI k, h_ret, h_xTarget, h_xVal, h_xType, h_xPlace, h_have, h_exiting, h_running, h_outcome, h_value, h_error, h_datum, h_place, h_beats, h_printed, c_sort, c_op, c_na, c_nb, c_up, c_val, c_size, c_params, c_parent, c_global, c_cells, c_locals, c_has, c_node, c_got, c_handle, c_pTarget, c_pPlace, c_act, c_mode, c_bVar, c_pType, c_v0, c_v1, c_v2, c_last, c_bVal, c_pVal, c_out) (nI n) (nI e) := by
  refine yy_w _ hk (fb_short (by omega)) ?_
  refine yy_w _ hk (fb_byte (by omega)) ?_
  refine yy_w _ hk y_0s ?_
  refine yy_w _ hk y_0b ?_
  refine yy_w _ hk y_m1b ?_
  refine yy_w 0 hk rfl ?_
  exact nm_r (nI_1 k) h
theorem y_pushm {h_depth h_fuel h_count h_open h_types h_ret h_xTarget h_xVal h_xType h_xPlace h_have h_exiting h_running h_outcome h_value h_error h_datum h_place h_beats h_printed : Int32} {c_sort c_op c_na c_nb c_up c_val c_size c_params c_parent c_global c_cells c_locals c_has c_node c_got c_handle c_pTarget c_pPlace c_act c_mode c_bVar c_pType c_v0 c_v1 c_v2 c_last c_bVal c_pVal c_out : Nat → Int32} {P : SY → Prop} (k : Nat) (hk : k < 520) (h : P (h_depth, h_fuel, h_count, h_open, h_types, nI (k + 1), h_ret, h_xTarget, h_xVal, h_xType, h_xPlace, h_have, h_exiting, h_running, h_outcome, h_value, h_error, h_datum, h_place, h_beats, h_printed, c_sort, c_op, c_na, c_nb, c_up, c_val, c_size, c_params, c_parent, c_global, c_cells, c_locals, c_has, upd c_node k (-1), upd c_got k 0, c_handle, c_pTarget, c_pPlace, upd c_act k 0, upd c_mode k 0, upd c_bVar k (-1), c_pType, c_v0, c_v1, c_v2, upd c_last k 0, c_bVal, c_pVal, c_out)) : wpY_push P (h_depth, h_fuel, h_count, h_open, h_types, nI k, h_ret, h_xTarget, h_xVal, h_xType, h_xPlace, h_have, h_exiting, h_running, h_outcome, h_value, h_error, h_datum, h_place, h_beats, h_printed, c_sort, c_op, c_na, c_nb, c_up, c_val, c_size, c_params, c_parent, c_global, c_cells, c_locals, c_has, c_node, c_got, c_handle, c_pTarget, c_pPlace, c_act, c_mode, c_bVar, c_pType, c_v0, c_v1, c_v2, c_last, c_bVal, c_pVal, c_out) (-1) 0 := by
  refine yy_w _ hk y_m1s ?_
  refine yy_w _ hk (fb_byte (n := 0) (by decide)) ?_
  refine yy_w _ hk y_0s ?_
  refine yy_w _ hk y_0b ?_
  refine yy_w _ hk y_m1b ?_
  refine yy_w 0 hk rfl ?_
  exact nm_r (nI_1 k) h
theorem y_gotm {k : Nat} (hk : k < 520) : vp_nar .short ((nI (k + 1) - 2).toInt16.toInt32) = nI k - 1 := by
  have e : nI (k + 1) - 2 = nI k - 1 := by
    rw [← nI_pred k, Int32.sub_sub]; rfl
  rw [e]
  have : ∀ k, k < 520 → vp_nar .short ((nI k - 1).toInt16.toInt32) = nI k - 1 := by decide +kernel
  exact this k hk
theorem y_sm1 {k : Nat} (hk : k < 520) : vp_nar .short ((nI k - 1).toInt16.toInt32) = nI k - 1 := by
  have : ∀ k, k < 520 → vp_nar .short ((nI k - 1).toInt16.toInt32) = nI k - 1 := by decide +kernel
  exact this k hk
theorem y_raise {h_depth h_fuel h_count h_open h_types h_ret h_xTarget h_xVal h_xType h_xPlace h_have h_exiting h_running h_outcome h_value h_error h_datum h_place h_beats h_printed : Int32} {c_sort c_op c_na c_nb c_up c_val c_size c_params c_parent c_global c_cells c_locals c_has c_node c_got c_handle c_pTarget c_pPlace c_act c_mode c_bVar c_pType c_v0 c_v1 c_v2 c_last c_bVal c_pVal c_out : Nat → Int32} {P : SY → Prop} {t d en : Int32} (k n : Nat) (hk : k < 520) (he : en = 0 ∨ en = 1) (h : P (h_depth, h_fuel, h_count, h_open, h_types, nI (k + 1), h_ret, h_xTarget, h_xVal, h_xType, h_xPlace, h_have, h_exiting, h_running, h_outcome, h_value, h_error, h_datum, h_place, h_beats, h_printed, c_sort, c_op, c_na, c_nb, c_up, c_val, c_size, c_params, c_parent, c_global, c_cells, c_locals, c_has, upd c_node k (-1), upd (upd c_got k 0) k (nI k - 1), c_handle, c_pTarget, c_pPlace, upd c_act k 0, upd (upd c_mode k 0) k en, upd c_bVar k (-1), c_pType, upd c_v0 k t, upd c_v1 k d, upd c_v2 k (nI n), upd c_last k 0, c_bVal, c_pVal, c_out)) : wpY_raise P (h_depth, h_fuel, h_count, h_open, h_types, nI k, h_ret, h_xTarget, h_xVal, h_xType, h_xPlace, h_have, h_exiting, h_running, h_outcome, h_value, h_error, h_datum, h_place, h_beats, h_printed, c_sort, c_op, c_na, c_nb, c_up, c_val, c_size, c_params, c_parent, c_global, c_cells, c_locals, c_has, c_node, c_got, c_handle, c_pTarget, c_pPlace, c_act, c_mode, c_bVar, c_pType, c_v0, c_v1, c_v2, c_last, c_bVal, c_pVal, c_out) t d (nI n) en := by
  unfold wpY_raise
  dsimp only
  refine y_pushm k hk ?_
  dsimp only
  rw [nI_pred]
  refine yy_w t hk rfl ?_
  refine yy_w d hk rfl ?_
  refine yy_w _ hk rfl ?_
  rcases he with rfl | rfl
  · refine br_t rfl ?_
    refine yy_w 0 hk (by decide) ?_
    rw [nI_pred]
    exact yy_w _ hk (y_gotm hk) h
  · refine br_f (by decide) ?_
    refine yy_w 1 hk (by decide) ?_
    rw [nI_pred]
    exact yy_w _ hk (y_gotm hk) h
theorem y_done {h_depth h_fuel h_count h_open h_types h_ret h_xTarget h_xVal h_xType h_xPlace h_have h_exiting h_running h_outcome h_value h_error h_datum h_place h_beats h_printed : Int32} {c_sort c_op c_na c_nb c_up c_val c_size c_params c_parent c_global c_cells c_locals c_has c_node c_got c_handle c_pTarget c_pPlace c_act c_mode c_bVar c_pType c_v0 c_v1 c_v2 c_last c_bVal c_pVal c_out : Nat → Int32} {P : SY → Prop} {v : Int32} (k : Nat) (h : P (h_depth, h_fuel, h_count, h_open, h_types, nI k, v, h_xTarget, h_xVal, h_xType, h_xPlace, 1, h_exiting, h_running, h_outcome, h_value, h_error, h_datum, h_place, h_beats, h_printed, c_sort, c_op, c_na, c_nb, c_up, c_val, c_size, c_params, c_parent, c_global, c_cells, c_locals, c_has, c_node, c_got, c_handle, c_pTarget, c_pPlace, c_act, c_mode, c_bVar, c_pType, c_v0, c_v1, c_v2, c_last, c_bVal, c_pVal, c_out)) : wpY_done P (h_depth, h_fuel, h_count, h_open, h_types, nI (k + 1), h_ret, h_xTarget, h_xVal, h_xType, h_xPlace, h_have, h_exiting, h_running, h_outcome, h_value, h_error, h_datum, h_place, h_beats, h_printed, c_sort, c_op, c_na, c_nb, c_up, c_val, c_size, c_params, c_parent, c_global, c_cells, c_locals, c_has, c_node, c_got, c_handle, c_pTarget, c_pPlace, c_act, c_mode, c_bVar, c_pType, c_v0, c_v1, c_v2, c_last, c_bVal, c_pVal, c_out) v := nm_r (nI_pred k) h
theorem y_beat {h_depth h_count h_open h_types h_sp h_ret h_xTarget h_xVal h_xType h_xPlace h_have h_exiting h_running h_outcome h_value h_error h_datum h_place h_printed : Int32} {c_sort c_op c_na c_nb c_up c_val c_size c_params c_parent c_global c_cells c_locals c_has c_node c_got c_handle c_pTarget c_pPlace c_act c_mode c_bVar c_pType c_v0 c_v1 c_v2 c_last c_bVal c_pVal c_out : Nat → Int32} {P : Int32 → SY → Prop} {be F : Nat} (hbe : be ≤ F) (hF : F ≤ 200) (h1 : be < F → P 1 (h_depth, nI F, h_count, h_open, h_types, h_sp, h_ret, h_xTarget, h_xVal, h_xType, h_xPlace, h_have, h_exiting, h_running, h_outcome, h_value, h_error, h_datum, h_place, nI (be + 1), h_printed, c_sort, c_op, c_na, c_nb, c_up, c_val, c_size, c_params, c_parent, c_global, c_cells, c_locals, c_has, c_node, c_got, c_handle, c_pTarget, c_pPlace, c_act, c_mode, c_bVar, c_pType, c_v0, c_v1, c_v2, c_last, c_bVal, c_pVal, c_out)) (h2 : F ≤ be → P 0 (h_depth, nI F, h_count, h_open, h_types, h_sp, h_ret, h_xTarget, h_xVal, h_xType, h_xPlace, h_have, h_exiting, 0, 2, h_value, h_error, h_datum, h_place, nI be, h_printed, c_sort, c_op, c_na, c_nb, c_up, c_val, c_size, c_params, c_parent, c_global, c_cells, c_locals, c_has, c_node, c_got, c_handle, c_pTarget, c_pPlace, c_act, c_mode, c_bVar, c_pType, c_v0, c_v1, c_v2, c_last, c_bVal, c_pVal, c_out)) : wpY_beat P (h_depth, nI F, h_count, h_open, h_types, h_sp, h_ret, h_xTarget, h_xVal, h_xType, h_xPlace, h_have, h_exiting, h_running, h_outcome, h_value, h_error, h_datum, h_place, nI be, h_printed, c_sort, c_op, c_na, c_nb, c_up, c_val, c_size, c_params, c_parent, c_global, c_cells, c_locals, c_has, c_node, c_got, c_handle, c_pTarget, c_pPlace, c_act, c_mode, c_bVar, c_pType, c_v0, c_v1, c_v2, c_last, c_bVal, c_pVal, c_out) := by
  refine fb_if (nI_eq (by omega) (by omega)) (fun e => h2 (by omega)) (fun e => nm_r (nI_1 be) (h1 (by omega)))
theorem y_isa5 {h_depth h_fuel h_count h_open h_types h_sp h_ret h_xTarget h_xVal h_xType h_xPlace h_have h_exiting h_running h_outcome h_value h_error h_datum h_place h_beats h_printed : Int32} {c_sort c_op c_na c_nb c_up c_val c_size c_params c_parent c_global c_cells c_locals c_has c_node c_got c_handle c_pTarget c_pPlace c_act c_mode c_bVar c_pType c_v0 c_v1 c_v2 c_last c_bVal c_pVal c_out : Nat → Int32} {Q : Int32 → Prop} {pt : Nat → Nat} (hp : ∀ t, t < 16 → c_parent t = nI (pt t) ∧ (1 ≤ t → pt t < t)) (a : Nat) (ha : 1 ≤ a) (ha2 : a ≤ 15) : ∀ (k t i n : Nat), i + k = 16 → t + i ≤ 15 → k < n → Q (if fo_ia pt k t a = true then 1 else 0) → wY_isA_5 Q (nI a) h_depth h_fuel h_count h_open h_types h_sp h_ret h_xTarget h_xVal h_xType h_xPlace h_have h_exiting h_running h_outcome h_value h_error h_datum h_place h_beats h_printed c_sort c_op c_na c_nb c_up c_val c_size c_params c_parent c_global c_cells c_locals c_has c_node c_got c_handle c_pTarget c_pPlace c_act c_mode c_bVar c_pType c_v0 c_v1 c_v2 c_last c_bVal c_pVal c_out n (nI t) (nI i)
  | _, _, _, 0, _, _, hn, _ => by omega
  | 0, t, i, n + 1, hk, ht, hn, h => by omega
  | k + 1, t, i, n + 1, hk, ht, hn, h => by
    have e : fo_ia pt (k + 1) t a = if t = a then true else if t ≤ a then false else fo_ia pt k (pt t) a := rfl
    rw [e] at h
    rw [wY_isA_5]
    refine br_f (nI_ge (b := 16) (by omega) (by decide)) ?_
    refine fb_if (nI_leI (b := 0) (by omega) (by decide)) (fun z => ?_) (fun z => ?_)
    · rw [if_neg (show ¬ t = a by omega), if_pos (show t ≤ a by omega), if_neg (by decide)] at h
      exact h
    · obtain ⟨p1, p2⟩ := hp t (by omega)
      have p3 := p2 (by omega)
      refine fb_if (nI_eq (by omega) (by omega)) (fun y => ?_) (fun y => ?_)
      · rw [if_pos y, if_pos rfl] at h
        exact h
      · rw [if_neg y] at h
        refine xx_n (by omega) ?_
        rw [p1]
        refine nm_r (nI_1 i) (y_isa5 hp a ha ha2 k (pt t) (i + 1) n (by omega) (by omega) (by omega) ?_)
        by_cases z2 : t ≤ a
        · rw [if_pos z2, if_neg (by decide)] at h
          have : fo_ia pt k (pt t) a = false := by
            cases k with
            | zero => rfl
            | succ k => exact (if_neg (by omega)).trans (if_pos (by omega))
          rw [this, if_neg (by decide)]
          exact h
        · rw [if_neg z2] at h
          exact h
end
section
/-! the reference's side: frames that stay, bindings, evaluating a node -/
def yE (n : Nat) (a b : Nat → Int32) : Prop := ∀ j, j < n → a j = b j
theorem yE_r {n : Nat} {a : Nat → Int32} : yE n a a := fun _ _ => rfl
theorem yE_u {n k : Nat} {a b : Nat → Int32} {v : Int32} (h : yE n a b) (hk : n ≤ k) : yE n (upd a k v) b := fun j hj => by rw [pk_un (by omega)]; exact h j hj
theorem yE_le {n m : Nat} {a b : Nat → Int32} (h : yE n a b) (hm : m ≤ n) : yE m a b := fun j hj => h j (by omega)
section
variable {g : mG} {V : Nat → Prop} {Z : Nat → Nat} {pa : Nat → Option Nat} {T : Nat} {h_count h_open h_types : Int32} {c_sort c_op c_na c_nb c_up c_val c_size c_params c_parent : Nat → Int32} {s : St} {oc ret xt xv xy xp ha exi v : Int32} {be : Nat} {gv gh : Nat → Int32} {c_node c_got c_handle c_pTarget c_pPlace c_act c_mode c_bVar c_pType c_v0 c_v1 c_v2 c_last c_bVal c_pVal : Nat → Int32} {l r : List Fr} {f : Fr} {P : SY → Prop} {post : Int32 → SY → Prop} {N i p q : Nat}
theorem m_yh_p {f : Fr} {r : List Fr} : m_yh (f :: r) = m_yh r + (if fr_ph f = 7 then 0 else if fr_ph f = 4 then 2 else 1) := rfl
theorem m_yh_1 {f : Fr} {r : List Fr} (h7 : fr_ph f ≠ 7) (h4 : fr_ph f ≠ 4) : m_yh (f :: r) = m_yh r + 1 := by
  rw [m_yh_p, if_neg h7, if_neg h4]
theorem yF_A {f : Fr} {r : List Fr} (h7 : fr_ph f ≠ 7) (h4 : fr_ph f ≠ 4) (h8 : fr_ph f ≠ 8) : yF g c_node c_got c_handle c_pTarget c_pPlace c_act c_mode c_bVar c_pType c_v0 c_v1 c_v2 c_last c_bVal c_pVal f r = yA g c_node c_got c_handle c_pTarget c_pPlace c_act c_mode c_bVar c_pType c_v0 c_v1 c_v2 c_last c_bVal c_pVal True (m_yh r) f r := by
  unfold yF
  rw [if_neg h7, if_neg h4, if_neg h8]
theorem yL_keep {c_node_q c_got_q c_handle_q c_pTarget_q c_pPlace_q c_act_q c_mode_q c_bVar_q c_pType_q c_v0_q c_v1_q c_v2_q c_last_q c_bVal_q c_pVal_q : Nat → Int32} : ∀ {l : List Fr} {w : Nat}, w_l g V Z pa w l → yL g c_node c_got c_handle c_pTarget c_pPlace c_act c_mode c_bVar c_pType c_v0 c_v1 c_v2 c_last c_bVal c_pVal l → yE (m_yh l) c_node_q c_node → yE (m_yh l) c_got_q c_got → yE (m_yh l) c_handle_q c_handle → yE (m_yh l) c_pTarget_q c_pTarget → yE (m_yh l) c_pPlace_q c_pPlace → yE (m_yh l) c_act_q c_act → yE (m_yh l) c_mode_q c_mode → yE (m_yh l) c_bVar_q c_bVar → yE (m_yh l) c_pType_q c_pType → yE (m_yh l) c_v0_q c_v0 → yE (m_yh l) c_v1_q c_v1 → yE (m_yh l) c_v2_q c_v2 → yE (m_yh l) c_last_q c_last → yE (m_yh l) c_bVal_q c_bVal → yE (m_yh l) c_pVal_q c_pVal → yL g c_node_q c_got_q c_handle_q c_pTarget_q c_pPlace_q c_act_q c_mode_q c_bVar_q c_pType_q c_v0_q c_v1_q c_v2_q c_last_q c_bVal_q c_pVal_q l
  | [], _, _, _, _, _, _, _, _, _, _, _, _, _, _, _, _, _, _ => trivial
  | f :: r, w, W, Y, e1, e2, e3, e4, e5, e6, e7, e8, e9, e10, e11, e12, e13, e14, e15 => by
    have hm := m_yh_p (f := f) (r := r)
    have hle : m_yh r ≤ m_yh (f :: r) := by omega
    refine ⟨?_, yL_keep W.2 Y.2 (yE_le e1 hle) (yE_le e2 hle) (yE_le e3 hle) (yE_le e4 hle) (yE_le e5 hle) (yE_le e6 hle) (yE_le e7 hle) (yE_le e8 hle) (yE_le e9 hle) (yE_le e10 hle) (yE_le e11 hle) (yE_le e12 hle) (yE_le e13 hle) (yE_le e14 hle) (yE_le e15 hle)⟩
    have Y1 := Y.1
    unfold yF at Y1 ⊢
    by_cases p7 : fr_ph f = 7
    · rw [if_pos p7] at Y1 hm ⊢
      obtain ⟨q0, r0, e0, p0, s0⟩ := W.1.2.2.2.2.2.1 p7
      have hq := m_yh_p (f := q0) (r := r0)
      have hp : 1 ≤ m_yh r := by
        rw [e0, hq, if_neg (w_48 p0).1]
        split <;> omega
      rw [e8 _ (by omega), e14 _ (by omega), e3 _ (by omega)]
      exact Y1
    · rw [if_neg p7] at Y1 hm ⊢
      by_cases p4 : fr_ph f = 4
      · rw [if_pos p4] at Y1 hm ⊢
        unfold yS at Y1 ⊢
        rw [e1 _ (by omega), e7 _ (by omega), e8 _ (by omega), e1 _ (by omega), e10 _ (by omega), e11 _ (by omega), e12 _ (by omega), e7 _ (by omega), e2 _ (by omega)]
        exact Y1
      · rw [if_neg p4] at Y1 hm ⊢
        by_cases p8 : fr_ph f = 8
        · rw [if_pos p8] at Y1 ⊢
          unfold yS at Y1 ⊢
          rw [e1 _ (by omega), e10 _ (by omega), e11 _ (by omega), e12 _ (by omega), e7 _ (by omega), e2 _ (by omega)]
          exact Y1
        · rw [if_neg p8] at Y1 ⊢
          obtain ⟨⟨nd, ev, ph, rm⟩, ⟨gt, x0, x1, x2⟩, ⟨la, bv, bx, ty⟩, dt, sc, sr, tg, pl⟩ := f
          unfold yA at Y1 ⊢
          rw [e1 _ (by omega), e6 _ (by omega), e2 _ (by omega), e7 _ (by omega), e8 _ (by omega), e14 _ (by omega), e10 _ (by omega), e11 _ (by omega), e12 _ (by omega), e13 _ (by omega), e15 _ (by omega), e4 _ (by omega), e9 _ (by omega), e5 _ (by omega)]
          exact Y1
/-- where a variable's binding is kept -/
def y_bi (v : Nat) : List Fr → Option Nat
  | [] => none
  | f :: r => if fr_bv f = v then some (if fr_ph f = 7 then m_yh r - 1 else m_yh r) else y_bi v r
def y_ox : Option Nat → Int32
  | none => -1
  | some k => nI k
theorem y_bvn {b v : Nat} (hv : 8 ≤ v) (hb : b < 12) (hv2 : v < 12) : y_bv b = nI v ↔ b = v := by
  unfold y_bv
  by_cases e : b = 0
  · rw [if_pos e]
    constructor
    · intro z
      have : (0 : Int32) ≤ -1 := by rw [z]; exact nI_pos' (by omega)
      exact absurd this (by decide)
    · intro z; omega
  · rw [if_neg e]
    exact nI_eq (by omega) (by omega)
theorem y_m1n {v : Nat} (hv2 : v < 12) : ¬ (-1 : Int32) = nI v := by
  intro z
  have : (0 : Int32) ≤ -1 := by rw [z]; exact nI_pos' (by omega)
  exact absurd this (by decide)
theorem y_bl {h_depth h_fuel h_count h_open h_types h_sp h_ret h_xTarget h_xVal h_xType h_xPlace h_have h_exiting h_running h_outcome h_value h_error h_datum h_place h_beats h_printed : Int32} {c_sort c_op c_na c_nb c_up c_val c_size c_params c_parent c_global c_cells c_locals c_has c_node c_got c_handle c_pTarget c_pPlace c_act c_mode c_bVar c_pType c_v0 c_v1 c_v2 c_last c_bVal c_pVal c_out : Nat → Int32} {Q : Int32 → Prop} (v : Nat) (hv : 8 ≤ v) (hv2 : v < 12) : ∀ (L : Nat) (l : List Fr) (w : Nat), l.length ≤ L → w_l g V Z pa w l → (∀ q r', l = q :: r' → fr_ph q ≠ 4 ∧ fr_ph q ≠ 8) → yL g c_node c_got c_handle c_pTarget c_pPlace c_act c_mode c_bVar c_pType c_v0 c_v1 c_v2 c_last c_bVal c_pVal l → m_yh l ≤ 520 → ∀ n, m_yh l < n → Q (y_ox (y_bi v l)) → wY_binding_7 Q (nI v) h_depth h_fuel h_count h_open h_types h_sp h_ret h_xTarget h_xVal h_xType h_xPlace h_have h_exiting h_running h_outcome h_value h_error h_datum h_place h_beats h_printed c_sort c_op c_na c_nb c_up c_val c_size c_params c_parent c_global c_cells c_locals c_has c_node c_got c_handle c_pTarget c_pPlace c_act c_mode c_bVar c_pType c_v0 c_v1 c_v2 c_last c_bVal c_pVal c_out n (nI (m_yh l) - 1)
  | _, _, _, _, _, _, _, _, 0, hn, _ => by omega
  | _, [], _, _, _, _, _, _, n + 1, hn, h => by
    rw [wY_binding_7]
    exact br_t (by decide) h
  | 0, f :: r, _, hL, _, _, _, _, n + 1, hn, h => absurd hL (by simp)
  | L + 1, f :: r, w, hL, W, hq, Y, h5, n + 1, hn, h => by
    have hL : r.length + 1 ≤ L + 1 := hL
    have hm := m_yh_p (f := f) (r := r)
    have hbv : fr_bv f < 12 := by
      rcases w_bdv W.1.2.2.2.1 with z | z <;> omega
    have Y1 := Y.1
    unfold yF at Y1
    have hb : y_bi v (f :: r) = if fr_bv f = v then some (if fr_ph f = 7 then m_yh r - 1 else m_yh r) else y_bi v r := rfl
    rw [hb] at h
    by_cases p7 : fr_ph f = 7
    · rw [if_pos p7] at Y1 hm
      rw [if_pos p7] at h
      obtain ⟨q0, r0, e0, p0, s0⟩ := W.1.2.2.2.2.2.1 p7
      subst e0
      obtain ⟨g7, g6, g1, g3⟩ := w_48 p0
      have hq0 := m_yh_p (f := q0) (r := r0)
      rw [if_neg g7] at hq0
      have hp : 1 ≤ m_yh (q0 :: r0) := by
        rw [hq0]
        split <;> omega
      rw [hm, Nat.add_zero]
      rw [hm, Nat.add_zero] at h5 hn
      obtain ⟨k, hk⟩ : ∃ k, m_yh (q0 :: r0) = k + 1 := ⟨m_yh (q0 :: r0) - 1, by omega⟩
      rw [hk, Nat.add_sub_cancel] at Y1 h
      rw [hk] at h5 hn hq0 ⊢
      have b0 : fr_bv q0 = 0 := w_bd48 W.2.1.2.2.2.1 p0
      have hb2 : y_bi v (q0 :: r0) = y_bi v r0 := if_neg (by omega)
      rw [nI_pred, wY_binding_7]
      refine br_f (nI_pos (by omega)) ?_
      refine ⟨vp_in_nI (by omega) (by decide), ?_⟩
      rw [nI_clamp (by omega), Y1.1]
      refine fb_if (y_bvn hv hbv hv2) (fun z => ?_) (fun z => ?_)
      · rw [if_pos z] at h
        exact h
      · rw [if_neg z, hb2] at h
        refine nm_r (fo_m1 k) ?_
        have hnx := W.2.1.2.2.2.2.2.2.1 g7
        by_cases p4 : fr_ph q0 = 4
        · rw [if_pos p4] at hq0
          have e : k = m_yh r0 + 1 := by omega
          subst e
          have Y2 := Y.2.1
          unfold yF at Y2
          rw [if_neg g7, if_pos p4] at Y2
          obtain ⟨m, rfl⟩ : ∃ m, n = m + 1 := ⟨n - 1, by omega⟩
          rw [nI_pred, wY_binding_7]
          refine br_f (nI_pos (by omega)) ?_
          refine ⟨vp_in_nI (by omega) (by decide), ?_⟩
          rw [nI_clamp (by omega), Y2.2.2.1]
          refine br_f (y_m1n hv2) (nm_r (fo_m1 _) ?_)
          exact y_bl v hv hv2 L r0 1 (by have : (q0 :: r0).length = r0.length + 1 := rfl; omega) W.2.2 hnx Y.2.2 (by omega) m (by omega) h
        · rw [if_neg p4] at hq0
          have e : k = m_yh r0 := by omega
          subst e
          exact y_bl v hv hv2 L r0 1 (by have : (q0 :: r0).length = r0.length + 1 := rfl; omega) W.2.2 hnx Y.2.2 (by omega) n (by omega) h
    · obtain ⟨h4, h8⟩ := hq f r rfl
      rw [if_neg p7, if_neg h4, if_neg h8] at Y1
      rw [if_neg p7] at h
      rw [if_neg p7, if_neg h4] at hm
      rw [hm] at h5 hn ⊢
      have Yb : c_bVar (m_yh r) = y_bv (fr_bv f) := by
        obtain ⟨⟨nd, ev, ph, rm⟩, ⟨gt, x0, x1, x2⟩, ⟨la, bv, bx, ty⟩, dt, sc, sr, tg, pl⟩ := f
        exact (Y1.2.2.2.2.1 trivial).1
      rw [nI_pred, wY_binding_7]
      refine br_f (nI_pos (by omega)) ?_
      refine ⟨vp_in_nI (by omega) (by decide), ?_⟩
      rw [nI_clamp (by omega), Yb]
      refine fb_if (y_bvn hv hbv hv2) (fun z => ?_) (fun z => ?_)
      · rw [if_pos z] at h
        exact h
      · rw [if_neg z] at h
        refine nm_r (fo_m1 _) ?_
        exact y_bl v hv hv2 L r 1 (by omega) W.2 (W.1.2.2.2.2.2.2.1 p7) Y.2 (by omega) n (by omega) h
theorem y_bif {gl : Nat → Option Int32} (v : Nat) (hv : 8 ≤ v) : ∀ {l : List Fr} {w : Nat}, w_l g V Z pa w l → (∀ q r', l = q :: r' → fr_ph q ≠ 4 ∧ fr_ph q ≠ 8) → yL g c_node c_got c_handle c_pTarget c_pPlace c_act c_mode c_bVar c_pType c_v0 c_v1 c_v2 c_last c_bVal c_pVal l → (∀ k, y_bi v l = some k → k < m_yh l ∧ m_cur gl v l = some (c_bVal k)) ∧ (y_bi v l = none → m_cur gl v l = gl v)
  | [], _, _, _, _ => ⟨fun k z => (by cases z), fun _ => rfl⟩
  | f :: r, w, W, hq, Y => by
    obtain ⟨h4, h8⟩ := hq f r rfl
    have hm := m_yh_p (f := f) (r := r)
    have hb : y_bi v (f :: r) = if fr_bv f = v then some (if fr_ph f = 7 then m_yh r - 1 else m_yh r) else y_bi v r := rfl
    have hc : m_cur gl v (f :: r) = if fr_bv f = v then some (fr_bx f) else m_cur gl v r := rfl
    have Y1 := Y.1
    unfold yF at Y1
    rw [hb, hc]
    by_cases e : fr_bv f = v
    · rw [if_pos e, if_pos e]
      refine ⟨fun k z => ?_, fun z => (by cases z)⟩
      injection z with z
      by_cases p7 : fr_ph f = 7
      · rw [if_pos p7] at Y1 hm z
        obtain ⟨q0, r0, e0, p0, s0⟩ := W.1.2.2.2.2.2.1 p7
        have hq0 := m_yh_p (f := q0) (r := r0)
        rw [if_neg (w_48 p0).1] at hq0
        have hp : 1 ≤ m_yh r := by
          rw [e0, hq0]
          split <;> omega
        refine ⟨by omega, ?_⟩
        rw [← z, Y1.2.1 (by omega)]
      · rw [if_neg p7] at Y1 hm z
        rw [if_neg h4, if_neg h8] at Y1
        rw [if_neg h4] at hm
        refine ⟨by omega, ?_⟩
        obtain ⟨⟨nd, ev, ph, rm⟩, ⟨gt, x0, x1, x2⟩, ⟨la, bv, bx, ty⟩, dt, sc, sr, tg, pl⟩ := f
        rw [← z, (Y1.2.2.2.2.1 trivial).2 (by
          have e : bv = v := e
          omega)]
        rfl
    · rw [if_neg e, if_neg e]
      by_cases p7 : fr_ph f = 7
      · obtain ⟨q0, r0, e0, p0, s0⟩ := W.1.2.2.2.2.2.1 p7
        subst e0
        have b0 : fr_bv q0 = 0 := w_bd48 W.2.1.2.2.2.1 p0
        have hb2 : y_bi v (q0 :: r0) = y_bi v r0 := if_neg (by omega)
        have hc2 : m_cur gl v (q0 :: r0) = m_cur gl v r0 := if_neg (by omega)
        have hq0 := m_yh_p (f := q0) (r := r0)
        obtain ⟨i1, i2⟩ := y_bif (gl := gl) v hv W.2.2 (W.2.1.2.2.2.2.2.2.1 (w_48 p0).1) Y.2.2
        rw [hb2, hc2]
        exact ⟨fun k z => ⟨by have := (i1 k z).1; omega, (i1 k z).2⟩, i2⟩
      · obtain ⟨i1, i2⟩ := y_bif (gl := gl) v hv W.2 (W.1.2.2.2.2.2.2.1 p7) Y.2
        exact ⟨fun k z => ⟨by have := (i1 k z).1; omega, (i1 k z).2⟩, i2⟩
theorem y_bind {h_depth h_fuel h_count h_open h_types h_ret h_xTarget h_xVal h_xType h_xPlace h_have h_exiting h_running h_outcome h_value h_error h_datum h_place h_beats h_printed : Int32} {c_sort c_op c_na c_nb c_up c_val c_size c_params c_parent c_global c_cells c_locals c_has c_node c_got c_handle c_pTarget c_pPlace c_act c_mode c_bVar c_pType c_v0 c_v1 c_v2 c_last c_bVal c_pVal c_out : Nat → Int32} {Q : Int32 → Prop} {w : Nat} (v : Nat) (hv : 8 ≤ v) (hv2 : v < 12) (W : w_l g V Z pa w l) (ht : ∀ q r', l = q :: r' → fr_ph q ≠ 4 ∧ fr_ph q ≠ 8) (Y : yL g c_node c_got c_handle c_pTarget c_pPlace c_act c_mode c_bVar c_pType c_v0 c_v1 c_v2 c_last c_bVal c_pVal l) (h5 : m_yh l ≤ 520) (h : Q (y_ox (y_bi v l))) : wpY_binding Q (h_depth, h_fuel, h_count, h_open, h_types, nI (m_yh l), h_ret, h_xTarget, h_xVal, h_xType, h_xPlace, h_have, h_exiting, h_running, h_outcome, h_value, h_error, h_datum, h_place, h_beats, h_printed, c_sort, c_op, c_na, c_nb, c_up, c_val, c_size, c_params, c_parent, c_global, c_cells, c_locals, c_has, c_node, c_got, c_handle, c_pTarget, c_pPlace, c_act, c_mode, c_bVar, c_pType, c_v0, c_v1, c_v2, c_last, c_bVal, c_pVal, c_out) (nI v) := nm_e ⟨m_yh l + 1, y_bl v hv hv2 l.length l w (Nat.le_refl _) W ht Y h5 (m_yh l + 1) (Nat.lt_succ_self _) h⟩
theorem y_bound {h_depth h_fuel h_count h_open h_types h_ret h_xTarget h_xVal h_xType h_xPlace h_have h_exiting h_running h_outcome h_value h_error h_datum h_place h_beats h_printed : Int32} {c_sort c_op c_na c_nb c_up c_val c_size c_params c_parent c_global c_cells c_locals c_has c_node c_got c_handle c_pTarget c_pPlace c_act c_mode c_bVar c_pType c_v0 c_v1 c_v2 c_last c_bVal c_pVal c_out : Nat → Int32} {Q : Int32 → Prop} {gl : Nat → Option Int32} {w : Nat} (v : Nat) (hv : 8 ≤ v) (hv2 : v < 12) (W : w_l g V Z pa w l) (ht : ∀ q r', l = q :: r' → fr_ph q ≠ 4 ∧ fr_ph q ≠ 8) (Y : yL g c_node c_got c_handle c_pTarget c_pPlace c_act c_mode c_bVar c_pType c_v0 c_v1 c_v2 c_last c_bVal c_pVal l) (h5 : m_yh l ≤ 520) (hg : yGl c_global c_has gl) (h : Q (match m_cur gl v l with | some _ => 1 | none => 0)) : wpY_bound Q (h_depth, h_fuel, h_count, h_open, h_types, nI (m_yh l), h_ret, h_xTarget, h_xVal, h_xType, h_xPlace, h_have, h_exiting, h_running, h_outcome, h_value, h_error, h_datum, h_place, h_beats, h_printed, c_sort, c_op, c_na, c_nb, c_up, c_val, c_size, c_params, c_parent, c_global, c_cells, c_locals, c_has, c_node, c_got, c_handle, c_pTarget, c_pPlace, c_act, c_mode, c_bVar, c_pType, c_v0, c_v1, c_v2, c_last, c_bVal, c_pVal, c_out) (nI v) := by
  obtain ⟨i1, i2⟩ := y_bif (gl := gl) v hv W ht Y
  unfold wpY_bound
  dsimp only
  refine y_bind v hv hv2 W ht Y h5 ?_
  cases hb : y_bi v l with
  | some k =>
    obtain ⟨k1, k2⟩ := i1 k hb
    rw [k2] at h
    exact br_t (nI_pos' (by omega)) h
  | none =>
    have k2 := i2 hb
    rw [k2] at h
    have := hg (v - 8) (by omega)
    rw [show 8 + (v - 8) = v from by omega] at this
    refine br_f (by decide) ⟨vp_in_nI hv2 (by decide), ?_⟩
    rw [nI_clamp (by omega)]
    cases hgl : gl v with
    | none =>
      rw [hgl] at this h
      exact br_t this h
    | some x =>
      rw [hgl] at this h
      exact br_f (by rw [this.1]; decide) h
theorem y_curr {h_depth h_fuel h_count h_open h_types h_ret h_xTarget h_xVal h_xType h_xPlace h_have h_exiting h_running h_outcome h_value h_error h_datum h_place h_beats h_printed : Int32} {c_sort c_op c_na c_nb c_up c_val c_size c_params c_parent c_global c_cells c_locals c_has c_node c_got c_handle c_pTarget c_pPlace c_act c_mode c_bVar c_pType c_v0 c_v1 c_v2 c_last c_bVal c_pVal c_out : Nat → Int32} {Q : Int32 → Prop} {gl : Nat → Option Int32} {w : Nat} {x : Int32} (v : Nat) (hv : 8 ≤ v) (hv2 : v < 12) (W : w_l g V Z pa w l) (ht : ∀ q r', l = q :: r' → fr_ph q ≠ 4 ∧ fr_ph q ≠ 8) (Y : yL g c_node c_got c_handle c_pTarget c_pPlace c_act c_mode c_bVar c_pType c_v0 c_v1 c_v2 c_last c_bVal c_pVal l) (h5 : m_yh l ≤ 520) (hg : yGl c_global c_has gl) (hx : m_cur gl v l = some x) (h : Q x) : wpY_current Q (h_depth, h_fuel, h_count, h_open, h_types, nI (m_yh l), h_ret, h_xTarget, h_xVal, h_xType, h_xPlace, h_have, h_exiting, h_running, h_outcome, h_value, h_error, h_datum, h_place, h_beats, h_printed, c_sort, c_op, c_na, c_nb, c_up, c_val, c_size, c_params, c_parent, c_global, c_cells, c_locals, c_has, c_node, c_got, c_handle, c_pTarget, c_pPlace, c_act, c_mode, c_bVar, c_pType, c_v0, c_v1, c_v2, c_last, c_bVal, c_pVal, c_out) (nI v) := by
  obtain ⟨i1, i2⟩ := y_bif (gl := gl) v hv W ht Y
  unfold wpY_current
  dsimp only
  refine y_bind v hv hv2 W ht Y h5 ?_
  cases hb : y_bi v l with
  | some k =>
    obtain ⟨k1, k2⟩ := i1 k hb
    rw [hx] at k2
    injection k2 with k2
    refine br_f (nI_pos (by omega)) ⟨vp_in_nI (by omega) (by decide), ?_⟩
    rw [show (y_ox (some k)).toNatClampNeg = k from nI_clamp (by omega), ← k2]
    exact h
  | none =>
    have k2 := i2 hb
    rw [hx] at k2
    have := hg (v - 8) (by omega)
    rw [show 8 + (v - 8) = v from by omega, ← k2] at this
    refine br_t (by decide) ⟨vp_in_nI hv2 (by decide), ?_⟩
    rw [nI_clamp (by omega), this.2]
    exact h
end
end
section
/-! the reference's side: evaluating a node; what one step more settles -/
section
variable {g : mG} {V : Nat → Prop} {Z : Nat → Nat} {pa : Nat → Option Nat} {T : Nat} {h_count h_open h_types : Int32} {c_sort c_op c_na c_nb c_up c_val c_size c_params c_parent : Nat → Int32} {s : St} {oc ret xt xv xy xp ha exi v : Int32} {be : Nat} {gv gh : Nat → Int32} {c_node c_got c_handle c_pTarget c_pPlace c_act c_mode c_bVar c_pType c_v0 c_v1 c_v2 c_last c_bVal c_pVal : Nat → Int32} {l r : List Fr} {f : Fr} {P : SY → Prop} {post : Int32 → SY → Prop} {N i p q : Nat}
/-- the relation, or a state that comes to it by one step more -/
def yQ (g : mG) (V : Nat → Prop) (h_count h_open h_types : Int32) (c_sort c_op c_na c_nb c_up c_val c_size c_params c_parent : Nat → Int32) (m : MS) (u : SY) : Prop := py_R g h_count h_open h_types c_sort c_op c_na c_nb c_up c_val c_size c_params c_parent m u ∨
  (∃ (v oc xt xv xy xp : Int32) (gv gh : Nat → Int32) (c_node c_got c_handle c_pTarget c_pPlace c_act c_mode c_bVar c_pType c_v0 c_v1 c_v2 c_last c_bVal c_pVal : Nat → Int32) (s : St), m = (4, v, none, 0, 0, [], s) ∧ yGl gv gh (sGl s) ∧ u = yU g h_count h_open h_types c_sort c_op c_na c_nb c_up c_val c_size c_params c_parent (y_z0 oc) 1 (sBe s) s 0 v xt xv xy xp 1 0 gv gh c_node c_got c_handle c_pTarget c_pPlace c_act c_mode c_bVar c_pType c_v0 c_v1 c_v2 c_last c_bVal c_pVal) ∨
  (∃ (oc ret xt xv xy xp : Int32) (gv gh : Nat → Int32) (c_node c_got c_handle c_pTarget c_pPlace c_act c_mode c_bVar c_pType c_v0 c_v1 c_v2 c_last c_bVal c_pVal : Nat → Int32) (s : St) (l : List Fr) (k n : Nat), m = (6, 0, none, 0, 0, l, s) ∧ yGl gv gh (sGl s) ∧ k < 520 ∧ V n ∧ gO g n = 10 ∧ c_node k = nI n ∧ c_got k = 0 ∧ gF g ≤ sBe s ∧ sBe s ≤ gF g ∧ u = yU g h_count h_open h_types c_sort c_op c_na c_nb c_up c_val c_size c_params c_parent (y_z0 oc) 1 (sBe s) s (k + 1) ret xt xv xy xp 0 0 gv gh c_node c_got c_handle c_pTarget c_pPlace c_act c_mode c_bVar c_pType c_v0 c_v1 c_v2 c_last c_bVal c_pVal)
theorem y_dlv (hg : yGl gv gh (sGl s)) (Y : yL g c_node c_got c_handle c_pTarget c_pPlace c_act c_mode c_bVar c_pType c_v0 c_v1 c_v2 c_last c_bVal c_pVal l) : yQ g V h_count h_open h_types c_sort c_op c_na c_nb c_up c_val c_size c_params c_parent (m_dlv l v s) (yU g h_count h_open h_types c_sort c_op c_na c_nb c_up c_val c_size c_params c_parent (y_z0 oc) 1 (sBe s) s (m_yh l) v xt xv xy xp 1 0 gv gh c_node c_got c_handle c_pTarget c_pPlace c_act c_mode c_bVar c_pType c_v0 c_v1 c_v2 c_last c_bVal c_pVal) := by
  cases l with
  | nil => exact Or.inr (Or.inl ⟨v, oc, xt, xv, xy, xp, gv, gh, c_node, c_got, c_handle, c_pTarget, c_pPlace, c_act, c_mode, c_bVar, c_pType, c_v0, c_v1, c_v2, c_last, c_bVal, c_pVal, s, rfl, hg, rfl⟩)
  | cons f r => exact Or.inl ⟨oc, sBe s, m_yh (f :: r), v, xt, xv, xy, xp, 1, 0, gv, gh, c_node, c_got, c_handle, c_pTarget, c_pPlace, c_act, c_mode, c_bVar, c_pType, c_v0, c_v1, c_v2, c_last, c_bVal, c_pVal, hg, fun _ => ⟨rfl, Y⟩, fun z => (by cases z), fun _ => ⟨rfl, rfl, rfl⟩, fun z => (by cases z), fun z => (by cases z), fun _ => rfl, rfl⟩
theorem y_len {n : Nat} (h : w_iq g Z n l) (hZ : 1 ≤ Z n) : m_yh l ≤ 518 := by
  have := h.1
  omega
theorem y_ev (G : g_w g V Z pa T) (Yt : yT g V h_count h_open h_types c_sort c_op c_na c_nb c_up c_val c_size c_params c_parent) {n e : Nat} (hV : V n) (he : e ≤ 5) (W : w_l g V Z pa 1 l) (ht : ∀ q r', l = q :: r' → fr_ph q ≠ 4 ∧ fr_ph q ≠ 8) (hi : w_iq g Z n l) (hs : sBe s ≤ gF g) (hg : yGl gv gh (sGl s)) (Y : yL g c_node c_got c_handle c_pTarget c_pPlace c_act c_mode c_bVar c_pType c_v0 c_v1 c_v2 c_last c_bVal c_pVal l) (h : ∀ u', yQ g V h_count h_open h_types c_sort c_op c_na c_nb c_up c_val c_size c_params c_parent (m_ev g n e l s) u' → P u') : wpY_evaluate P (yU g h_count h_open h_types c_sort c_op c_na c_nb c_up c_val c_size c_params c_parent (y_z0 oc) 1 (sBe s) s (m_yh l) ret xt xv xy xp 0 0 gv gh c_node c_got c_handle c_pTarget c_pPlace c_act c_mode c_bVar c_pType c_v0 c_v1 c_v2 c_last c_bVal c_pVal) (nI n) (nI e) := by
  obtain ⟨n1, n2, n3, n4, n5, n6, n7, n8, _⟩ := G.1 n hV
  obtain ⟨t27, t28, t26, tma, tb⟩ := Yt.1 n hV
  have h5 := y_len hi n2
  unfold m_ev at h
  refine ⟨vp_in_nI n4 (by decide), ?_⟩
  rw [nI_clamp (by omega)]
  by_cases o27 : gO g n = 27
  · rw [if_pos o27] at h
    obtain ⟨a1, a2⟩ := t27 o27
    refine br_t a1 ⟨vp_in_nI n4 (by decide), ?_⟩
    rw [a2]
    exact h _ (y_dlv hg Y)
  · rw [if_neg o27] at h
    by_cases o28 : gO g n = 28
    · rw [if_pos o28] at h
      obtain ⟨a1, a2⟩ := t28 o28
      have hA := n8 o28
      refine br_f (by rw [a1]; decide) ⟨vp_in_nI n4 (by decide), br_t a1 ?_⟩
      refine ⟨vp_in_nI n4 (by decide), ?_⟩
      rw [a2]
      refine nm_e ?_
      by_cases a8 : gA g n < 8
      · rw [if_pos a8] at h
        refine br_f (nI_ge (b := 8) a8 (by decide)) ?_
        have ei : 8 * nI e + nI (gA g n) = nI (8 * e + gA g n) := by
          rw [show (8 : Int32) = nI 8 from rfl, pk_mul, nI_add]
        rw [ei]
        refine ⟨vp_in_nI (by omega) (by decide), ?_⟩
        rw [nI_clamp (by omega)]
        exact h _ (y_dlv hg Y)
      · rw [if_neg a8] at h
        refine br_t (nI_le (a := 8) (by omega) (by omega)) ?_
        refine y_bound (gl := sGl s) (gA g n) (by omega) hA W ht Y (by omega) hg ?_
        cases hm : m_cur (sGl s) (gA g n) l with
        | some x =>
          rw [hm] at h
          refine br_f (show ¬ (1 : Int32) = 0 by decide) ?_
          refine y_curr (gl := sGl s) (gA g n) (by omega) hA W ht Y (by omega) hg hm ?_
          exact h _ (y_dlv hg Y)
        | none =>
          rw [hm] at h
          refine br_t rfl ?_
          refine y_raise (m_yh l) n (by omega) (Or.inr rfl) ?_
          refine h _ (Or.inl ⟨oc, sBe s, m_yh l + 1, ret, xt, xv, xy, xp, 0, 0, gv, gh, upd c_node (m_yh l) (-1), upd (upd c_got (m_yh l) 0) (m_yh l) (nI (m_yh l) - 1), c_handle, c_pTarget, c_pPlace, upd c_act (m_yh l) 0, upd (upd c_mode (m_yh l) 0) (m_yh l) 1, upd c_bVar (m_yh l) (-1), c_pType, upd c_v0 (m_yh l) 4, upd c_v1 (m_yh l) (nI (gA g n)), upd c_v2 (m_yh l) (nI n), upd c_last (m_yh l) 0, c_bVal, c_pVal, hg, fun _ => ⟨rfl, ?_, ?_⟩, fun z => (by cases z), fun z => (by cases z), fun _ => rfl, fun z => (by cases z), fun _ => rfl, rfl⟩)
          · refine ⟨pk_us, pk_us, pk_us, pk_us, ?_, ?_⟩
            · rw [pk_us]
              show (1 : Int32) = if gO g n = 20 then 0 else 1
              rw [if_neg (by omega)]
            · rw [pk_us]
              show nI (m_yh l) - 1 = nI (y_at l l.length) - 1
              unfold y_at
              rw [Nat.sub_self]; rfl
          · exact yL_keep W Y (yE_u yE_r (Nat.le_refl _)) (yE_u (yE_u yE_r (Nat.le_refl _)) (Nat.le_refl _)) yE_r yE_r yE_r (yE_u yE_r (Nat.le_refl _)) (yE_u (yE_u yE_r (Nat.le_refl _)) (Nat.le_refl _)) (yE_u yE_r (Nat.le_refl _)) yE_r (yE_u yE_r (Nat.le_refl _)) (yE_u yE_r (Nat.le_refl _)) (yE_u yE_r (Nat.le_refl _)) (yE_u yE_r (Nat.le_refl _)) yE_r yE_r
    · rw [if_neg o28] at h
      have hO : gO g n ≤ 26 := by omega
      obtain ⟨a1, a2⟩ := t26 hO
      refine br_f (by rw [a1]; decide) ⟨vp_in_nI n4 (by decide), br_f (by rw [a1]; decide) ?_⟩
      refine y_push (m_yh l) n e (by omega) n4 (by omega) ?_
      have em : ∃ ph rm, (ph = 0 ∨ ph = 1) ∧ m_new g n e = ((n, e, ph, rm), (0, 0, 0, 0), (0, 0, 0, 0), 0, [], 0, none, 0) := by
        refine ⟨_, _, ?_, rfl⟩
        split
        · exact Or.inr rfl
        · exact Or.inl rfl
      obtain ⟨ph, rm, hph, em⟩ := em
      have hYn : yL g (upd c_node (m_yh l) (nI n)) (upd c_got (m_yh l) 0) c_handle c_pTarget c_pPlace (upd c_act (m_yh l) (nI e)) (upd c_mode (m_yh l) 0) (upd c_bVar (m_yh l) (-1)) c_pType c_v0 c_v1 c_v2 (upd c_last (m_yh l) 0) c_bVal c_pVal (m_new g n e :: l) := by
        refine ⟨?_, yL_keep W Y (yE_u yE_r (Nat.le_refl _)) (yE_u yE_r (Nat.le_refl _)) yE_r yE_r yE_r (yE_u yE_r (Nat.le_refl _)) (yE_u yE_r (Nat.le_refl _)) (yE_u yE_r (Nat.le_refl _)) yE_r yE_r yE_r yE_r (yE_u yE_r (Nat.le_refl _)) yE_r yE_r⟩
        rw [em]
        refine (yF_A (f := ((n, e, ph, rm), (0, 0, 0, 0), (0, 0, 0, 0), 0, [], 0, none, 0)) (show ph ≠ 7 by omega) (show ph ≠ 4 by omega) (show ph ≠ 8 by omega)).mpr ?_
        refine ⟨pk_us, pk_us, pk_us, ?_, fun _ => ⟨pk_us, fun z => absurd rfl z⟩, fun _ z => absurd z (by decide), fun _ z => absurd z (by decide), fun _ z => absurd z (by decide), fun _ _ => pk_us, fun _ _ z => (by cases z), fun z => ?_⟩
        · rw [pk_us, if_neg (by omega)]
        · omega
      have ey : m_yh (m_new g n e :: l) = m_yh l + 1 := by
        rw [em]
        exact m_yh_1 (show ph ≠ 7 by omega) (show ph ≠ 4 by omega)
      by_cases o10 : gO g n = 10
      · rw [if_pos o10] at h
        by_cases hb : sBe s < gF g
        · rw [if_pos hb] at h
          refine h _ (Or.inl ⟨oc, sBe s, m_yh l + 1, ret, xt, xv, xy, xp, 0, 0, gv, gh, upd c_node (m_yh l) (nI n), upd c_got (m_yh l) 0, c_handle, c_pTarget, c_pPlace, upd c_act (m_yh l) (nI e), upd c_mode (m_yh l) 0, upd c_bVar (m_yh l) (-1), c_pType, c_v0, c_v1, c_v2, upd c_last (m_yh l) 0, c_bVal, c_pVal, hg, fun _ => ⟨ey.symm, hYn⟩, fun _ => ⟨rfl, rfl, ?_⟩, fun z => (by cases z), fun z => (by cases z), fun z => (by cases z), fun z => absurd z (by show ¬ 1 ≤ 0; decide), rfl⟩)
          show sBe s + (if gO g n = 10 then 1 else 0) = sBe s + 1
          rw [if_pos o10]
        · rw [if_neg hb] at h
          exact h _ (Or.inr (Or.inr ⟨oc, ret, xt, xv, xy, xp, gv, gh, upd c_node (m_yh l) (nI n), upd c_got (m_yh l) 0, c_handle, c_pTarget, c_pPlace, upd c_act (m_yh l) (nI e), upd c_mode (m_yh l) 0, upd c_bVar (m_yh l) (-1), c_pType, c_v0, c_v1, c_v2, upd c_last (m_yh l) 0, c_bVal, c_pVal, s, _, m_yh l, n, rfl, hg, by omega, hV, o10, pk_us, pk_us, by omega, hs, rfl⟩))
      · rw [if_neg o10] at h
        refine h _ (Or.inl ⟨oc, sBe s, m_yh l + 1, ret, xt, xv, xy, xp, 0, 0, gv, gh, upd c_node (m_yh l) (nI n), upd c_got (m_yh l) 0, c_handle, c_pTarget, c_pPlace, upd c_act (m_yh l) (nI e), upd c_mode (m_yh l) 0, upd c_bVar (m_yh l) (-1), c_pType, c_v0, c_v1, c_v2, upd c_last (m_yh l) 0, c_bVal, c_pVal, hg, fun _ => ⟨ey.symm, hYn⟩, fun _ => ⟨rfl, rfl, ?_⟩, fun z => (by cases z), fun z => (by cases z), fun z => (by cases z), fun z => absurd z (by show ¬ 1 ≤ 0; decide), rfl⟩)
        show sBe s + (if gO g n = 10 then 1 else 0) = sBe s
        rw [if_neg o10]; rfl
/-- what is left to do is done -/
theorem y_settle (G : g_w g V Z pa T) (Yt : yT g V h_count h_open h_types c_sort c_op c_na c_nb c_up c_val c_size c_params c_parent) {m : MS} {u : SY} (hi : i + 2 < 1000000) (S : yQ g V h_count h_open h_types c_sort c_op c_na c_nb c_up c_val c_size c_params c_parent m u) (H : ∀ p q, p + q = 2 → ∀ u', py_R g h_count h_open h_types c_sort c_op c_na c_nb c_up c_val c_size c_params c_parent m u' → yR post (N + p) (i + q) u') : yR post (N + 1) (i + 1) u := by
  rcases S with R | ⟨v, oc, xt, xv, xy, xp, gv, gh, c_node, c_got, c_handle, c_pTarget, c_pPlace, c_act, c_mode, c_bVar, c_pType, c_v0, c_v1, c_v2, c_last, c_bVal, c_pVal, s, rfl, hg, rfl⟩ | ⟨oc, ret, xt, xv, xy, xp, gv, gh, c_node, c_got, c_handle, c_pTarget, c_pPlace, c_act, c_mode, c_bVar, c_pType, c_v0, c_v1, c_v2, c_last, c_bVal, c_pVal, s, l, k, n, rfl, hg, hk, hV, o10, k1, k2, hF, hF2, rfl⟩
  · exact H 1 1 rfl u R
  · refine y_go (by omega) (show ¬ (1 : Int32) = 0 by decide) ?_
    refine br_t rfl (br_t rfl ?_)
    show yR post N (i + 2) (yU g h_count h_open h_types c_sort c_op c_na c_nb c_up c_val c_size c_params c_parent (0, v, 0, 0, -1) 0 (sBe s) s 0 v xt xv xy xp 1 0 gv gh c_node c_got c_handle c_pTarget c_pPlace c_act c_mode c_bVar c_pType c_v0 c_v1 c_v2 c_last c_bVal c_pVal)
    exact H 0 2 rfl _ ⟨oc, sBe s, 0, v, xt, xv, xy, xp, 1, 0, gv, gh, c_node, c_got, c_handle, c_pTarget, c_pPlace, c_act, c_mode, c_bVar, c_pType, c_v0, c_v1, c_v2, c_last, c_bVal, c_pVal, hg, fun z => absurd z (by show ¬ 4 < 4; decide), fun z => (by cases z), fun z => (by cases z), fun z => (by cases z), fun z => (by cases z), fun _ => rfl, rfl⟩
  · have hn := (G.1 n hV).2.2.2.1
    have hop := ((Yt.1 n hV).2.2.1 (by omega)).2
    have hF3 : gF g ≤ 200 := G.2.2.2.2.2.2.1
    refine y_go (by omega) (show ¬ (1 : Int32) = 0 by decide) ?_
    refine br_t rfl ?_
    refine br_f (xx_ne (a := k + 1) (b := 0) (by omega) (by omega) (by decide)) ?_
    rw [show (nI (k + 1) - 1 : Int32) = nI k from nI_pred k]
    refine ⟨vp_in_nI hk (by decide), ?_⟩
    rw [nI_clamp (by omega), k1]
    refine br_t (nI_pos' (by omega)) ?_
    unfold wpY_advance
    dsimp only
    refine ⟨vp_in_nI hk (by decide), ?_⟩
    rw [nI_clamp (by omega), k1]
    refine nm_e ?_
    refine xx_n hn ?_
    rw [hop, o10]
    refine Yt.2.1 n hV _ _ _ _ _ _ _ _ _ _ _ _ _ _ _ _ _ _ _ _ _ _ _ _ _ _ _ _ _ _ _ _ _ _ _ _ _ _ _ ?_
    refine br_t rfl ?_
    refine ⟨vp_in_nI hk (by decide), ?_⟩
    rw [nI_clamp (by omega), k2]
    refine nm_e ?_
    refine br_f (by decide) (br_t rfl ?_)
    refine br_t rfl ?_
    refine y_beat hF2 hF3 (fun z => by omega) (fun z => ?_)
    refine br_t rfl ?_
    show yR post N (i + 2) (yU g h_count h_open h_types c_sort c_op c_na c_nb c_up c_val c_size c_params c_parent (2, 0, 0, 0, -1) 0 (sBe s) s (k + 1) ret xt xv xy xp 0 0 gv gh c_node c_got c_handle c_pTarget c_pPlace c_act c_mode c_bVar c_pType c_v0 c_v1 c_v2 c_last c_bVal c_pVal)
    exact H 0 2 rfl _ ⟨oc, sBe s, k + 1, ret, xt, xv, xy, xp, 0, 0, gv, gh, c_node, c_got, c_handle, c_pTarget, c_pPlace, c_act, c_mode, c_bVar, c_pType, c_v0, c_v1, c_v2, c_last, c_bVal, c_pVal, hg, fun z => absurd z (by show ¬ 6 < 4; decide), fun z => (by cases z), fun z => (by cases z), fun z => (by cases z), fun z => (by cases z), fun _ => rfl, rfl⟩
end
end
section
/-! the reference's side: searches in the stack, counting calls -/
section
variable {g : mG} {V : Nat → Prop} {Z : Nat → Nat} {pa : Nat → Option Nat} {T : Nat} {c_node c_got c_handle c_pTarget c_pPlace c_act c_mode c_bVar c_pType c_v0 c_v1 c_v2 c_last c_bVal c_pVal : Nat → Int32} {l r : List Fr} {f : Fr}
theorem w_yh_pos {l : List Fr} {w : Nat} (W : w_l g V Z pa w l) (h : l ≠ []) : 1 ≤ m_yh l := by
  cases l with
  | nil => exact absurd rfl h
  | cons f r =>
    have hm := m_yh_p (f := f) (r := r)
    by_cases p7 : fr_ph f = 7
    · rw [if_pos p7] at hm
      obtain ⟨q0, r0, e0, p0, s0⟩ := W.1.2.2.2.2.2.1 p7
      have hq0 := m_yh_p (f := q0) (r := r0)
      rw [if_neg (w_48 p0).1] at hq0
      rw [hm, e0, hq0]
      split <;> omega
    · rw [if_neg p7] at hm
      rw [hm]
      split <;> omega
theorem m_find_suf {pr : Fr → Bool} {f : Fr} {r : List Fr} : m_find pr (f :: r) = if pr f = true then some r.length else m_find pr r := rfl
theorem y_at_len {l r : List Fr} {q : Fr} (h : (q :: r) <:+ l) : y_at l r.length = m_yh r := by
  unfold y_at
  rw [(m_suf_drop h).1]
theorem y_scan {Lp : Nat → Int32 → Prop} {pr : Fr → Bool} {L0 : List Fr} (hpr : ∀ f r w, w_f g V Z pa w f r → fr_ph f = 4 ∨ fr_ph f = 7 ∨ fr_ph f = 8 → pr f = false)
    (hs : ∀ n k, k < 520 → c_node k = -1 → (m_find pr L0 ≠ none → 1 ≤ k) → Lp n (nI k - 1) → Lp (n + 1) (nI k))
    (hn : ∀ n f r w, w_f g V Z pa w f r → (fr_ph f = 4 ∧ c_mode (m_yh r) = 0) ∨ (fr_ph f ≠ 4 ∧ fr_ph f ≠ 7 ∧ fr_ph f ≠ 8 ∧ yA g c_node c_got c_handle c_pTarget c_pPlace c_act c_mode c_bVar c_pType c_v0 c_v1 c_v2 c_last c_bVal c_pVal True (m_yh r) f r) → c_node (m_yh r) = nI (fr_nd f) → m_yh r < 520 → pr f = false → (m_find pr L0 ≠ none → 1 ≤ m_yh r) → Lp n (nI (m_yh r) - 1) → Lp (n + 1) (nI (m_yh r)))
    (hp : ∀ n f r w, w_f g V Z pa w f r → fr_ph f ≠ 4 → fr_ph f ≠ 7 → fr_ph f ≠ 8 → yA g c_node c_got c_handle c_pTarget c_pPlace c_act c_mode c_bVar c_pType c_v0 c_v1 c_v2 c_last c_bVal c_pVal True (m_yh r) f r → m_yh r < 520 → pr f = true → m_find pr L0 = some r.length → (f :: r) <:+ L0 → Lp (n + 1) (nI (m_yh r)))
    (he : m_find pr L0 = none → ∀ n, Lp (n + 1) (-1)) : ∀ (l : List Fr) (w : Nat), w_l g V Z pa w l → yL g c_node c_got c_handle c_pTarget c_pPlace c_act c_mode c_bVar c_pType c_v0 c_v1 c_v2 c_last c_bVal c_pVal l → m_yh l ≤ 520 → l <:+ L0 → m_find pr L0 = m_find pr l → ∀ n, m_yh l < n → Lp n (nI (m_yh l) - 1)
  | _, _, _, _, _, _, _, 0, hn => by omega
  | [], _, _, _, _, _, e, n + 1, _ => he e n
  | f :: r, w, W, Y, h5, hsuf, e, n + 1, hlt => by
    have hm := m_yh_p (f := f) (r := r)
    have hpos : m_find pr L0 ≠ none → m_find pr L0 = m_find pr r → 1 ≤ m_yh r := by
      intro z1 z2
      refine w_yh_pos W.2 (fun z => ?_)
      rw [z] at z2
      exact z1 z2
    have hr : r <:+ L0 := (List.suffix_cons f r).trans hsuf
    have Y1 := Y.1
    unfold yF at Y1
    rw [m_find_suf] at e
    by_cases p7 : fr_ph f = 7
    · rw [if_pos p7] at hm
      rw [if_neg (by rw [hpr f r w W.1 (Or.inr (Or.inl p7))]; decide)] at e
      rw [hm, Nat.add_zero] at hlt h5 ⊢
      exact y_scan hpr hs hn hp he r 1 W.2 Y.2 h5 hr e (n + 1) hlt
    · rw [if_neg p7] at hm Y1
      by_cases p4 : fr_ph f = 4
      · rw [if_pos p4] at hm Y1
        have hf := hpr f r w W.1 (Or.inl p4)
        rw [if_neg (by rw [hf]; decide)] at e
        rw [hm] at hlt h5 ⊢
        obtain ⟨m, rfl⟩ : ∃ m, n = m + 1 := ⟨n - 1, by omega⟩
        rw [show m_yh r + 2 = m_yh r + 1 + 1 from rfl, nI_pred]
        refine hs _ _ (by omega) Y1.2.2.2.1 (fun _ => by omega) ?_
        rw [nI_pred]
        exact hn _ f r w W.1 (Or.inl ⟨p4, Y1.2.1⟩) Y1.1 (by omega) hf (fun z => hpos z e) (y_scan hpr hs hn hp he r 1 W.2 Y.2 (by omega) hr e m (by omega))
      · rw [if_neg p4] at hm Y1
        rw [hm] at hlt h5 ⊢
        rw [nI_pred]
        by_cases p8 : fr_ph f = 8
        · rw [if_pos p8] at Y1
          have hf := hpr f r w W.1 (Or.inr (Or.inr p8))
          rw [if_neg (by rw [hf]; decide)] at e
          exact hs _ _ (by omega) Y1.1 (fun z => hpos z e) (y_scan hpr hs hn hp he r 1 W.2 Y.2 (by omega) hr e n (by omega))
        · rw [if_neg p8] at Y1
          have hnode : c_node (m_yh r) = nI (fr_nd f) := by
            obtain ⟨⟨nd, ev, ph, rm⟩, ⟨gt, x0, x1, x2⟩, ⟨la, bv, bx, ty⟩, dt, sc, sr, tg, pl⟩ := f
            exact Y1.1
          by_cases hf : pr f = true
          · rw [if_pos hf] at e
            exact hp _ f r w W.1 p4 p7 p8 Y1 (by omega) hf e hsuf
          · rw [if_neg hf] at e
            have hf' : pr f = false := by
              cases h : pr f with
              | true => exact absurd h hf
              | false => rfl
            exact hn _ f r w W.1 (Or.inr ⟨p4, p7, p8, Y1⟩) hnode (by omega) hf' (fun z => hpos z e) (y_scan hpr hs hn hp he r 1 W.2 Y.2 (by omega) hr e n (by omega))
/-- counting upwards: Lp c k -/
theorem y_cnt {Lp : Nat → Nat → Nat → Prop} {M : Nat} (hs : ∀ n c k, k < M → c_node k = -1 → Lp n c (k + 1) → Lp (n + 1) c k)
    (hn : ∀ n c f r w, w_f g V Z pa w f r → (fr_ph f = 4 ∧ c_mode (m_yh r) = 0) ∨ (fr_ph f ≠ 4 ∧ fr_ph f ≠ 7 ∧ fr_ph f ≠ 8 ∧ yA g c_node c_got c_handle c_pTarget c_pPlace c_act c_mode c_bVar c_pType c_v0 c_v1 c_v2 c_last c_bVal c_pVal True (m_yh r) f r) → c_node (m_yh r) = nI (fr_nd f) → m_yh r < M → Lp n (c + (if fr_ph f = 6 then 1 else 0)) (m_yh r + 1) → Lp (n + 1) c (m_yh r)) : ∀ (l : List Fr) (w : Nat), w_l g V Z pa w l → yL g c_node c_got c_handle c_pTarget c_pPlace c_act c_mode c_bVar c_pType c_v0 c_v1 c_v2 c_last c_bVal c_pVal l → m_yh l ≤ M → ∀ n, Lp n (m_fc l) (m_yh l) → Lp (n + m_yh l) 0 0
  | [], _, _, _, _, n, h => h
  | f :: r, w, W, Y, h5, n, h => by
    have hm := m_yh_p (f := f) (r := r)
    have hc : m_fc (f :: r) = m_fc r + (if fr_ph f = 6 then 1 else 0) := rfl
    have Y1 := Y.1
    unfold yF at Y1
    rw [hc] at h
    by_cases p7 : fr_ph f = 7
    · rw [if_pos p7, Nat.add_zero] at hm
      rw [if_neg (by omega), Nat.add_zero] at h
      rw [hm] at h5 h ⊢
      exact y_cnt hs hn r 1 W.2 Y.2 h5 n h
    · rw [if_neg p7] at hm Y1
      by_cases p4 : fr_ph f = 4
      · rw [if_pos p4] at hm Y1
        rw [hm] at h5 h ⊢
        have e : n + (m_yh r + 2) = (n + 2) + m_yh r := by omega
        rw [e]
        refine y_cnt hs hn r 1 W.2 Y.2 (by omega) (n + 2) ?_
        refine hn (n + 1) _ f r w W.1 (Or.inl ⟨p4, Y1.2.1⟩) Y1.1 (by omega) ?_
        exact hs n _ (m_yh r + 1) (by omega) Y1.2.2.2.1 h
      · rw [if_neg p4] at hm Y1
        rw [hm] at h5 h ⊢
        have e : n + (m_yh r + 1) = (n + 1) + m_yh r := by omega
        rw [e]
        refine y_cnt hs hn r 1 W.2 Y.2 (by omega) (n + 1) ?_
        by_cases p8 : fr_ph f = 8
        · rw [if_pos p8] at Y1
          rw [if_neg (by omega), Nat.add_zero] at h
          exact hs n _ (m_yh r) (by omega) Y1.1 h
        · rw [if_neg p8] at Y1
          have hnode : c_node (m_yh r) = nI (fr_nd f) := by
            obtain ⟨⟨nd, ev, ph, rm⟩, ⟨gt, x0, x1, x2⟩, ⟨la, bv, bx, ty⟩, dt, sc, sr, tg, pl⟩ := f
            exact Y1.1
          exact hn n _ f r w W.1 (Or.inr ⟨p4, p7, p8, Y1⟩) hnode (by omega) h
end
end
section
/-! the reference's side: applying -/
section
variable {g : mG} {V : Nat → Prop} {Z : Nat → Nat} {pa : Nat → Option Nat} {T : Nat} {h_count h_open h_types : Int32} {c_sort c_op c_na c_nb c_up c_val c_size c_params c_parent : Nat → Int32} {s : St} {oc ret xt xv xy xp ha exi v : Int32} {be : Nat} {gv gh : Nat → Int32} {c_node c_got c_handle c_pTarget c_pPlace c_act c_mode c_bVar c_pType c_v0 c_v1 c_v2 c_last c_bVal c_pVal : Nat → Int32} {l r : List Fr} {f : Fr} {P : SY → Prop} {post : Int32 → SY → Prop} {N i p q : Nat}
theorem m_set_cons {v : Nat} {x : Int32} {f : Fr} {r r1 : List Fr} (hb : fr_bv f ≠ v) (h : m_set v x (f :: r) = some r1) : ∃ r2, m_set v x r = some r2 ∧ r1 = f :: r2 := by
  obtain ⟨⟨nd, ev, ph, rm⟩, ⟨gt, x0, x1, x2⟩, ⟨la, bv, bx, ty⟩, dt, sc, sr, tg, pl⟩ := f
  have hb : bv ≠ v := hb
  have h : (if bv = v then some (((nd, ev, ph, rm), (gt, x0, x1, x2), (la, bv, x, ty), dt, sc, sr, tg, pl) :: r) else match m_set v x r with
    | some r' => some (((nd, ev, ph, rm), (gt, x0, x1, x2), (la, bv, bx, ty), dt, sc, sr, tg, pl) :: r')
    | none => none) = some r1 := h
  rw [if_neg hb] at h
  cases hm : m_set v x r with
  | none => rw [hm] at h; cases h
  | some r2 =>
    rw [hm] at h
    cases h
    exact ⟨r2, rfl, rfl⟩
theorem yL_set : ∀ {r r' : List Fr} {w v k : Nat} {x : Int32}, m_set v x r = some r' → 8 ≤ v → w_l g V Z pa w r → (∀ q r', r = q :: r' → fr_ph q ≠ 4 ∧ fr_ph q ≠ 8) → yL g c_node c_got c_handle c_pTarget c_pPlace c_act c_mode c_bVar c_pType c_v0 c_v1 c_v2 c_last c_bVal c_pVal r → y_bi v r = some k → k < m_yh r ∧ yL g c_node c_got c_handle c_pTarget c_pPlace c_act c_mode c_bVar c_pType c_v0 c_v1 c_v2 c_last (upd c_bVal k x) c_pVal r'
  | [], r', w, v, k, x, h, _, _, _, _, _ => by cases h
  | f :: r, r', w, v, k, x, h, hv, W, hq, Y, hb => by
    obtain ⟨h4, h8⟩ := hq f r rfl
    have hm := m_yh_p (f := f) (r := r)
    have hb0 : y_bi v (f :: r) = if fr_bv f = v then some (if fr_ph f = 7 then m_yh r - 1 else m_yh r) else y_bi v r := rfl
    rw [hb0] at hb
    have Y1 := Y.1
    obtain ⟨⟨nd, ev, ph, rm⟩, ⟨gt, x0, x1, x2⟩, ⟨la, bv, bx, ty⟩, dt, sc, sr, tg, pl⟩ := f
    have h4 : ph ≠ 4 := h4
    have h8 : ph ≠ 8 := h8
    have h : (if bv = v then some (((nd, ev, ph, rm), (gt, x0, x1, x2), (la, bv, x, ty), dt, sc, sr, tg, pl) :: r) else match m_set v x r with
      | some r' => some (((nd, ev, ph, rm), (gt, x0, x1, x2), (la, bv, bx, ty), dt, sc, sr, tg, pl) :: r')
      | none => none) = some r' := h
    have hbb : (if bv = v then some (if ph = 7 then m_yh r - 1 else m_yh r) else y_bi v r) = some k := hb
    clear hb hb0
    have hm : m_yh (((nd, ev, ph, rm), (gt, x0, x1, x2), (la, bv, bx, ty), dt, sc, sr, tg, pl) :: r) = m_yh r + (if ph = 7 then 0 else if ph = 4 then 2 else 1) := hm
    by_cases e : bv = v
    · rw [if_pos e] at h hbb
      cases h
      injection hbb with hbb
      by_cases p7 : ph = 7
      · subst p7
        rw [if_pos rfl] at hbb hm
        obtain ⟨q0, r0, e0, p0, s0⟩ := W.1.2.2.2.2.2.1 rfl
        have hp : 1 ≤ m_yh r := w_yh_pos W.2 (by rw [e0]; simp)
        have Y1 : c_bVar (m_yh r - 1) = y_bv bv ∧ (bv ≠ 0 → c_bVal (m_yh r - 1) = bx) ∧ ∀ q r', r = q :: r' → c_handle (m_yh r - 1) = nI (y_at r' (fr_sr q)) := Y1
        refine ⟨by omega, ⟨Y1.1, fun _ => ?_, Y1.2.2⟩, ?_⟩
        · rw [← hbb]; exact pk_us
        · subst e0
          have W2 := W.2
          have g7 := (w_48 p0).1
          have b0 : fr_bv q0 = 0 := w_bd48 W2.1.2.2.2.1 p0
          have Yq := Y.2
          have hq0 := m_yh_p (f := q0) (r := r0)
          rw [if_neg g7] at hq0
          have hk0 : m_yh r0 ≤ k := by
            rw [← hbb, hq0]
            split <;> omega
          refine ⟨?_, yL_keep W2.2 Yq.2 yE_r yE_r yE_r yE_r yE_r yE_r yE_r yE_r yE_r yE_r yE_r yE_r yE_r (yE_u yE_r hk0) yE_r⟩
          have Yq1 := Yq.1
          unfold yF at Yq1 ⊢
          rw [if_neg g7] at Yq1 ⊢
          by_cases q4 : fr_ph q0 = 4
          · rw [if_pos q4] at Yq1 ⊢
            exact Yq1
          · rw [if_neg q4] at Yq1 ⊢
            have q8 : fr_ph q0 = 8 := by omega
            rw [if_pos q8] at Yq1 ⊢
            exact Yq1
      · rw [if_neg p7] at hbb hm
        rw [if_neg h4] at hm
        have Y1 := (yF_A (f := ((nd, ev, ph, rm), (gt, x0, x1, x2), (la, bv, bx, ty), dt, sc, sr, tg, pl)) p7 h4 h8).mp Y1
        refine ⟨by omega, ?_, yL_keep W.2 Y.2 yE_r yE_r yE_r yE_r yE_r yE_r yE_r yE_r yE_r yE_r yE_r yE_r yE_r (yE_u yE_r (by omega)) yE_r⟩
        refine (yF_A (f := ((nd, ev, ph, rm), (gt, x0, x1, x2), (la, bv, x, ty), dt, sc, sr, tg, pl)) p7 h4 h8).mpr ?_
        obtain ⟨a1, a2, a3, a4, a5, a6⟩ := Y1
        exact ⟨a1, a2, a3, a4, fun z => ⟨(a5 z).1, fun _ => by rw [← hbb]; exact pk_us⟩, a6⟩
    · rw [if_neg e] at h hbb
      cases hm1 : m_set v x r with
      | none => rw [hm1] at h; cases h
      | some r1 =>
        rw [hm1] at h
        cases h
        have sh := m_set_sh hm1
        obtain ⟨s1, s2, s3, _⟩ := m_sh_fun (g := g) (Z := Z) sh
        have hat : ∀ hh, y_at r1 hh = y_at r hh := by
          intro hh
          unfold y_at
          rw [← m_sh_len sh, ← (m_sh_fun (g := g) (Z := Z) (m_sh_drop _ sh)).2.2.1]
        by_cases p7 : ph = 7
        · subst p7
          rw [if_pos rfl] at hm
          obtain ⟨q0, r0, e0, p0, s0⟩ := W.1.2.2.2.2.2.1 rfl
          have hp : 1 ≤ m_yh r := w_yh_pos W.2 (by rw [e0]; simp)
          have Y1 : c_bVar (m_yh r - 1) = y_bv bv ∧ (bv ≠ 0 → c_bVal (m_yh r - 1) = bx) ∧ ∀ q r', r = q :: r' → c_handle (m_yh r - 1) = nI (y_at r' (fr_sr q)) := Y1
          subst e0
          have g7 := (w_48 p0).1
          have b0 : fr_bv q0 = 0 := w_bd48 W.2.1.2.2.2.1 p0
          have hb2 : y_bi v (q0 :: r0) = y_bi v r0 := if_neg (by omega)
          have hbb : y_bi v (q0 :: r0) = some k := hbb
          rw [hb2] at hbb
          obtain ⟨r2, hm2, e1⟩ := m_set_cons (by omega) hm1
          subst e1
          have sh2 := m_set_sh hm2
          have hq0 := m_yh_p (f := q0) (r := r0)
          have hq2 := m_yh_p (f := q0) (r := r2)
          rw [if_neg g7] at hq0 hq2
          have e2 : m_yh r2 = m_yh r0 := ((m_sh_fun (g := g) (Z := Z) sh2).2.2.1).symm
          have e3 : m_yh (q0 :: r2) = m_yh (q0 :: r0) := by rw [hq0, hq2, e2]
          have hat2 : ∀ hh, y_at r2 hh = y_at r0 hh := by
            intro hh
            unfold y_at
            rw [← m_sh_len sh2, ← (m_sh_fun (g := g) (Z := Z) (m_sh_drop _ sh2)).2.2.1]
          obtain ⟨i1, i2⟩ := yL_set hm2 hv W.2.2 (W.2.1.2.2.2.2.2.2.1 g7) Y.2.2 hbb
          have hkl : k < m_yh (q0 :: r0) - 1 := by
            rw [hq0]
            split <;> omega
          refine ⟨by omega, ?_, ?_, i2⟩
          · show c_bVar (m_yh (q0 :: r2) - 1) = y_bv bv ∧ (bv ≠ 0 → upd c_bVal k x (m_yh (q0 :: r2) - 1) = bx) ∧ ∀ q r', q0 :: r2 = q :: r' → c_handle (m_yh (q0 :: r2) - 1) = nI (y_at r' (fr_sr q))
            rw [e3, pk_un (by omega)]
            refine ⟨Y1.1, Y1.2.1, fun q r' e => ?_⟩
            injection e with e4 e5
            rw [← e4, ← e5, hat2]
            exact Y1.2.2 q0 r0 rfl
          · have Yq1 := Y.2.1
            unfold yF at Yq1 ⊢
            rw [if_neg g7] at Yq1 ⊢
            rw [e2, hat2, ← m_sh_len sh2]
            by_cases q4 : fr_ph q0 = 4
            · rw [if_pos q4] at Yq1 ⊢
              exact Yq1
            · rw [if_neg q4] at Yq1 ⊢
              have q8 : fr_ph q0 = 8 := by omega
              rw [if_pos q8] at Yq1 ⊢
              exact Yq1
        · rw [if_neg p7, if_neg h4] at hm
          have Y1 := (yF_A (f := ((nd, ev, ph, rm), (gt, x0, x1, x2), (la, bv, bx, ty), dt, sc, sr, tg, pl)) p7 h4 h8).mp Y1
          obtain ⟨i1, i2⟩ := yL_set hm1 hv W.2 (W.1.2.2.2.2.2.2.1 p7) Y.2 hbb
          refine ⟨by omega, ?_, i2⟩
          refine (yF_A (f := ((nd, ev, ph, rm), (gt, x0, x1, x2), (la, bv, bx, ty), dt, sc, sr, tg, pl)) p7 h4 h8).mpr ?_
          obtain ⟨a1, a2, a3, a4, a5, a6, a7, a8, a9, a10, a11⟩ := Y1
          rw [← s3]
          refine ⟨a1, a2, a3, a4, fun z => ⟨(a5 z).1, fun z2 => ?_⟩, a6, a7, a8, a9, a10, fun z => ⟨(a11 z).1, ?_, (a11 z).2.2⟩⟩
          · rw [pk_un (by omega)]; exact (a5 z).2 z2
          · rw [(a11 z).2.1]
            cases tg with
            | none => rfl
            | some hh => exact congrArg nI (hat hh).symm
end
end
section
/-! the reference's side: applying a list -/
theorem y_lo_k (L : Nat → Int32) (e k : Nat) (x0 x1 x2 v : Int32) (hk : k < 3) (hv : v = if k = 0 then x0 else if k = 1 then x1 else x2) : upd (x_lo L e k x0 x1 x2 8) (8 * e + k) v = x_lo L e (k + 1) x0 x1 x2 8 := by
  funext j
  by_cases h : j = 8 * e + k
  · rw [h, pk_us, hv]
    unfold x_lo
    rw [if_pos (show 8 * e ≤ 8 * e + k ∧ 8 * e + k < 8 * e + 8 by omega), show 8 * e + k - 8 * e = k from by omega, if_pos (show k < k + 1 by omega)]
  · rw [pk_un h]
    unfold x_lo
    by_cases h2 : 8 * e ≤ j ∧ j < 8 * e + 8
    · rw [if_pos h2, if_pos h2]
      by_cases h3 : j - 8 * e < k
      · rw [if_pos h3, if_pos (show j - 8 * e < k + 1 by omega)]
      · rw [if_neg h3, if_neg (show ¬ j - 8 * e < k + 1 by omega)]
    · rw [if_neg h2, if_neg h2]
section
variable {g : mG} {V : Nat → Prop} {Z : Nat → Nat} {pa : Nat → Option Nat} {T : Nat} {h_count h_open h_types : Int32} {c_sort c_op c_na c_nb c_up c_val c_size c_params c_parent : Nat → Int32} {s : St} {oc ret xt xv xy xp ha exi v : Int32} {be : Nat} {gv gh : Nat → Int32} {c_node c_got c_handle c_pTarget c_pPlace c_act c_mode c_bVar c_pType c_v0 c_v1 c_v2 c_last c_bVal c_pVal : Nat → Int32} {l r : List Fr} {f : Fr} {P : SY → Prop} {post : Int32 → SY → Prop} {N i p q : Nat}
theorem w_48l {f : Fr} {w : Nat} (h : w_lk g w f) (hp : fr_ph f = 4 ∨ fr_ph f = 7 ∨ fr_ph f = 8) : gO g (fr_nd f) ≠ 11 := by
  obtain ⟨⟨nd, ev, ph, rm⟩, ⟨gt, x0, x1, x2⟩, ⟨la, bv, bx, ty⟩, dt, sc, sr, tg, pl⟩ := f
  have hp : ph = 4 ∨ ph = 7 ∨ ph = 8 := hp
  show gO g nd ≠ 11
  rcases h with h | h | h | h | h | h | h | h | h | h <;> omega
theorem w_got13 {f : Fr} {w : Nat} (h : w_lk g w f) (hO : gO g (fr_nd f) = 13) (h4 : fr_ph f ≠ 4) : (0 < fr_gt f ↔ fr_ph f = 1) ∧ fr_gt f ≤ (gK g (fr_nd f)).length := by
  obtain ⟨⟨nd, ev, ph, rm⟩, ⟨gt, x0, x1, x2⟩, ⟨la, bv, bx, ty⟩, dt, sc, sr, tg, pl⟩ := f
  have hO : gO g nd = 13 := hO
  show (0 < gt ↔ ph = 1) ∧ gt ≤ (gK g nd).length
  rcases h with h | h | h | h | h | h | h | h | h | h
  · have := h.2.2.2.2.2.2.2 (by omega)
    omega
  · omega
  · omega
  · have := h.2.2.2.2 (by omega)
    omega
  all_goals omega
theorem w_md18 {f : Fr} {w : Nat} (h : w_lk g w f) (hO : gO g (fr_nd f) = 18) : fr_ph f = 1 ∨ fr_ph f = 5 := by
  obtain ⟨⟨nd, ev, ph, rm⟩, ⟨gt, x0, x1, x2⟩, ⟨la, bv, bx, ty⟩, dt, sc, sr, tg, pl⟩ := f
  have hO : gO g nd = 18 := hO
  show ph = 1 ∨ ph = 5
  rcases h with h | h | h | h | h | h | h | h | h | h <;> omega
theorem w_md23 {f : Fr} {w : Nat} (h : w_lk g w f) (hO : gO g (fr_nd f) = 23) : fr_ph f = 0 ∨ fr_ph f = 4 ∨ fr_ph f = 6 := by
  obtain ⟨⟨nd, ev, ph, rm⟩, ⟨gt, x0, x1, x2⟩, ⟨la, bv, bx, ty⟩, dt, sc, sr, tg, pl⟩ := f
  have hO : gO g nd = 23 := hO
  show ph = 0 ∨ ph = 4 ∨ ph = 6
  rcases h with h | h | h | h | h | h | h | h | h | h <;> omega
theorem w_ph6 {f : Fr} {w : Nat} (h : w_lk g w f) (hp : fr_ph f = 6) : gO g (fr_nd f) = 23 := by
  obtain ⟨⟨nd, ev, ph, rm⟩, ⟨gt, x0, x1, x2⟩, ⟨la, bv, bx, ty⟩, dt, sc, sr, tg, pl⟩ := f
  have hp : ph = 6 := hp
  show gO g nd = 23
  rcases h with h | h | h | h | h | h | h | h | h | h <;> omega
theorem w_lsO {f : Fr} {w : Nat} (h : w_lk g w f) (h8 : fr_ph f ≠ 8) : gO g (fr_nd f) ≤ 26 := by
  obtain ⟨⟨nd, ev, ph, rm⟩, ⟨gt, x0, x1, x2⟩, ⟨la, bv, bx, ty⟩, dt, sc, sr, tg, pl⟩ := f
  have h8 : ph ≠ 8 := h8
  show gO g nd ≤ 26
  rcases h with h | h | h | h | h | h | h | h | h | h <;> omega
theorem y_bn {v : Nat} {x : Int32} : ∀ {r : List Fr}, y_bi v r = none → m_set v x r = none
  | [], _ => rfl
  | f :: r, h => by
    have h : (if fr_bv f = v then some (if fr_ph f = 7 then m_yh r - 1 else m_yh r) else y_bi v r) = none := h
    by_cases e : fr_bv f = v
    · rw [if_pos e] at h; cases h
    · rw [if_neg e] at h
      have ih := y_bn (x := x) h
      obtain ⟨⟨nd, ev, ph, rm⟩, ⟨gt, x0, x1, x2⟩, ⟨la, bv, bx, ty⟩, dt, sc, sr, tg, pl⟩ := f
      have e : bv ≠ v := e
      show (if bv = v then some (((nd, ev, ph, rm), (gt, x0, x1, x2), (la, bv, x, ty), dt, sc, sr, tg, pl) :: r) else match m_set v x r with
        | some r' => some (((nd, ev, ph, rm), (gt, x0, x1, x2), (la, bv, bx, ty), dt, sc, sr, tg, pl) :: r')
        | none => none) = none
      rw [if_neg e, ih]
theorem y_bnn {v : Nat} : ∀ {r : List Fr}, (∀ q, q ∈ r → fr_bv q ≠ v) → y_bi v r = none
  | [], _ => rfl
  | f :: r, h => (if_neg (h f (List.mem_cons_self ..))).trans (y_bnn (fun q hq => h q (List.mem_cons_of_mem _ hq)))
theorem y_nneg {n : Nat} (h : n < 392) : ¬ nI n < 0 := nI_pos (by omega)
theorem y_loc {h_depth h_fuel h_count h_open h_types h_sp h_ret h_xTarget h_xVal h_xType h_xPlace h_have h_exiting h_running h_outcome h_value h_error h_datum h_place h_beats h_printed : Int32} {c_sort c_op c_na c_nb c_up c_val c_size c_params c_parent c_global c_cells c_has c_node c_got c_handle c_pTarget c_pPlace c_act c_mode c_bVar c_pType c_v0 c_v1 c_v2 c_last c_bVal c_pVal c_out : Nat → Int32} {P : SY → Prop} {L : Nat → Int32} {x1 x3 x4 a0 a1 a2 : Int32} (e : Nat) (he : e ≤ 5) (H : wY_call_161 P x1 x3 x4 (nI (8 * e)) h_depth h_fuel h_count h_open h_types h_sp h_ret h_xTarget h_xVal h_xType h_xPlace h_have h_exiting h_running h_outcome h_value h_error h_datum h_place h_beats h_printed 1 8 c_sort c_op c_na c_nb c_up c_val c_size c_params c_parent c_global c_cells (x_lo L e 0 a0 a1 a2 8) c_has c_node c_got c_handle c_pTarget c_pPlace c_act c_mode c_bVar c_pType c_v0 c_v1 c_v2 c_last c_bVal c_pVal c_out) : ∀ (d i n : Nat), i + d = 8 → n = d + 1 → wY_call_161 P x1 x3 x4 (nI (8 * e)) h_depth h_fuel h_count h_open h_types h_sp h_ret h_xTarget h_xVal h_xType h_xPlace h_have h_exiting h_running h_outcome h_value h_error h_datum h_place h_beats h_printed n (nI i) c_sort c_op c_na c_nb c_up c_val c_size c_params c_parent c_global c_cells (x_lo L e 0 a0 a1 a2 i) c_has c_node c_got c_handle c_pTarget c_pPlace c_act c_mode c_bVar c_pType c_v0 c_v1 c_v2 c_last c_bVal c_pVal c_out
  | 0, i, n, hi, hn => by
    subst hn
    have : i = 8 := by omega
    subst this
    exact H
  | d + 1, i, n, hi, hn => by
    subst hn
    rw [wY_call_161]
    refine br_f (nI_ge (b := 8) (by omega) (by decide)) ?_
    rw [nI_add]
    refine ⟨vp_in_nI (by omega) (by decide), ?_⟩
    rw [nI_clamp (by omega)]
    refine nm_r (x_lo_s L e 0 a0 a1 a2 i 0 (by rw [if_neg (by omega)])) (nm_r (nI_1 i) ?_)
    exact y_loc e he H d (i + 1) (d + 1) (by omega) rfl
end
end
section
/-! the reference's side: applying a list, all kinds -/
section
variable {g : mG} {V : Nat → Prop} {Z : Nat → Nat} {pa : Nat → Option Nat} {T : Nat} {h_count h_open h_types : Int32} {c_sort c_op c_na c_nb c_up c_val c_size c_params c_parent : Nat → Int32} {s : St} {oc ret xt xv xy xp ha exi v : Int32} {be : Nat} {gv gh : Nat → Int32} {c_node c_got c_handle c_pTarget c_pPlace c_act c_mode c_bVar c_pType c_v0 c_v1 c_v2 c_last c_bVal c_pVal : Nat → Int32} {l r : List Fr} {f : Fr} {P : SY → Prop} {post : Int32 → SY → Prop} {N i p q : Nat}
theorem y_le15 {x : Int32} : x ≤ 15 ↔ ¬ 16 ≤ x := by
  rw [Int32.not_le]
  constructor
  · intro h
    exact Int32.lt_of_le_of_lt h (by decide)
  · intro h
    rw [Int32.le_iff_toInt_le]
    rw [Int32.lt_iff_toInt_lt] at h
    have a : (16 : Int32).toInt = 16 := by decide
    have b : (15 : Int32).toInt = 15 := by decide
    omega
theorem y_nar {h_depth h_fuel h_count h_open h_types h_sp h_ret h_xTarget h_xVal h_xType h_xPlace h_have h_exiting h_running h_outcome h_value h_error h_datum h_place h_beats h_printed : Int32} {c_sort c_op c_na c_nb c_up c_val c_size c_params c_parent c_global c_cells c_locals c_has c_node c_got c_handle c_pTarget c_pPlace c_act c_mode c_bVar c_pType c_v0 c_v1 c_v2 c_last c_bVal c_pVal c_out : Nat → Int32} {Q : Int32 → Prop} {a : Nat} {x : Int32} (ha : a < 4) (h : Q (m_kb a x)) : wpY_narrow Q (h_depth, h_fuel, h_count, h_open, h_types, h_sp, h_ret, h_xTarget, h_xVal, h_xType, h_xPlace, h_have, h_exiting, h_running, h_outcome, h_value, h_error, h_datum, h_place, h_beats, h_printed, c_sort, c_op, c_na, c_nb, c_up, c_val, c_size, c_params, c_parent, c_global, c_cells, c_locals, c_has, c_node, c_got, c_handle, c_pTarget, c_pPlace, c_act, c_mode, c_bVar, c_pType, c_v0, c_v1, c_v2, c_last, c_bVal, c_pVal, c_out) (nI a) x := by
  have hc : a = 0 ∨ a = 1 ∨ a = 2 ∨ a = 3 := by omega
  rcases hc with rfl | rfl | rfl | rfl
  · exact br_t rfl h
  · exact br_f (by decide) (br_t rfl h)
  · exact br_f (by decide) (br_f (by decide) (br_t rfl h))
  · refine br_f (by decide) (br_f (by decide) (br_f (by decide) ?_))
    rw [pk_char]
    have e : m_kb 3 x = nI (x.toBitVec.toNat % 65536) := pk_and x 16 (by decide)
    rw [← e]
    exact h
theorem w_call (G : g_w g V Z pa T) {nd ev gt ty sr : Nat} {x0 x1 x2 la bx dt pl : Int32} {sc : List (Nat × Nat × Nat)} {tg : Option Nat} (F : w_f g V Z pa 0 ((nd, ev, 0, []), (gt, x0, x1, x2), (la, 0, bx, ty), dt, sc, sr, tg, pl) r) (W : w_l g V Z pa 1 r) (hO : gO g nd = 23) (hA : gA g nd < 6) (hC : gC g (gA g nd) ≠ 0) (hd : ¬ gD g ≤ m_fc r) : w_f g V Z pa 1 ((nd, ev, 6, []), (gt, x0, x1, x2), (la, 0, bx, ty), dt, sc, sr, tg, pl) r ∧ w_iq g Z (56 * gA g nd) (((nd, ev, 6, []), (gt, x0, x1, x2), (la, 0, bx, ty), dt, sc, sr, tg, pl) :: r) ∧ V (56 * gA g nd) := by
  obtain ⟨f1, f2, f3, f4, f5, f6, f7, f8, f9, f10⟩ := F
  obtain ⟨v1, v2⟩ := G.2.1 _ hA hC
  have r3 : Z (56 * gA g nd) ≤ 56 := (G.1 _ v1).2.2.1
  have n2 : 1 ≤ Z nd := (G.1 nd f1).2.1
  have hD : gD g ≤ 5 := G.2.2.2.2.2.1
  obtain ⟨i1, i2⟩ := f9 (fun z => by cases z)
  have i1 : 2 * m_yh r + 3 * Z nd + 1 + w_kY g Z (m_ch g r) + 170 * (5 - m_fc r) ≤ 1040 := i1
  have i2 : 2 * r.length + 4 * Z nd + w_kX g Z (m_ch g r) + 224 * (5 - m_fc r) ≤ 1400 := i2
  have hgt : gt ≤ 56 := by
    have hK := (w_ks G (n := nd) f1).2.1
    rcases f3 with h | h | h | h | h | h | h | h | h | h
    · have := h.2.2.2.2.2.2.1
      omega
    all_goals omega
  refine ⟨⟨f1, f2, Or.inr (Or.inr (Or.inr (Or.inr (Or.inr (Or.inr (Or.inr (Or.inl ⟨rfl, hO, rfl, fun _ => hgt⟩))))))), Or.inl rfl, fun z => (by rcases z with z | z <;> cases z), fun z => (by cases z), fun _ => f7 (fun z => by cases z), f8, fun _ => f9 (fun z => by cases z), fun z => (by cases z)⟩, ⟨?_, ?_⟩, v1⟩
  · show 2 * (m_yh r + 1) + 3 * Z (56 * gA g nd) + 1 + w_kY g Z (m_ch g r) + 170 * (5 - (m_fc r + 1)) ≤ 1040
    omega
  · show 2 * (r.length + 1) + 4 * Z (56 * gA g nd) + w_kX g Z (m_ch g r) + 224 * (5 - (m_fc r + 1)) ≤ 1400
    omega
theorem y_app (G : g_w g V Z pa T) (Yt : yT g V h_count h_open h_types c_sort c_op c_na c_nb c_up c_val c_size c_params c_parent) {nd ev gt bv ty sr : Nat} {x0 x1 x2 la bx dt pl : Int32} {sc : List (Nat × Nat × Nat)} {tg : Option Nat} (F : w_f g V Z pa 0 ((nd, ev, 0, []), (gt, x0, x1, x2), (la, bv, bx, ty), dt, sc, sr, tg, pl) r) (W : w_l g V Z pa 1 r) (hfr : m_fc r ≤ gD g) (hs : w_s g s) (hpr : sPr s < 1000000) (hg : yGl gv gh (sGl s)) (YA : yA g c_node c_got c_handle c_pTarget c_pPlace c_act c_mode c_bVar c_pType c_v0 c_v1 c_v2 c_last c_bVal c_pVal True (m_yh r) ((nd, ev, 0, []), (gt, x0, x1, x2), (la, bv, bx, ty), dt, sc, sr, tg, pl) r) (Yr : yL g c_node c_got c_handle c_pTarget c_pPlace c_act c_mode c_bVar c_pType c_v0 c_v1 c_v2 c_last c_bVal c_pVal r) (h : ∀ u', yQ g V h_count h_open h_types c_sort c_op c_na c_nb c_up c_val c_size c_params c_parent (m_app g ((nd, ev, 0, []), (gt, x0, x1, x2), (la, bv, bx, ty), dt, sc, sr, tg, pl) r s) u' → P u') : wpY_apply P (yU g h_count h_open h_types c_sort c_op c_na c_nb c_up c_val c_size c_params c_parent (y_z0 oc) 1 (sBe s) s (m_yh r + 1) ret xt xv xy xp 0 0 gv gh c_node c_got c_handle c_pTarget c_pPlace c_act c_mode c_bVar c_pType c_v0 c_v1 c_v2 c_last c_bVal c_pVal) (nI (m_yh r)) (nI nd) (nI (gO g nd)) := by
  obtain ⟨hb, hgt, hO, o6, o7, o9, o10, o11, o13, o15, o16, hle, hl, hg56⟩ := w_done0 G F
  subst hb
  have f1 : V nd := F.1
  have f2 : ev ≤ 5 := F.2.1
  have N0 := G.1 nd f1
  have n2 := N0.2.1
  have n4 := N0.2.2.2.1
  have har := N0.2.2.2.2.2.2.2.2.1 hO
  have h5 : m_yh r ≤ 518 := y_len (F.2.2.2.2.2.2.2.2.1 (by show (0 : Nat) ≠ 7; decide)) n2
  have hk : m_yh r < 520 := by omega
  have tma := (Yt.1 nd f1).2.2.2.1
  have hop := ((Yt.1 nd f1).2.2.1 hO).2
  have d5 : 1 ≤ fo_least (gO g nd) → c_v0 (m_yh r) = x0 := fun z => YA.2.2.2.2.2.1 (Or.inl rfl) (by omega)
  have d6 : 2 ≤ fo_least (gO g nd) → c_v1 (m_yh r) = x1 := fun z => YA.2.2.2.2.2.2.1 rfl (by omega)
  have e1 : 0 < gt → c_v0 (m_yh r) = x0 := fun z => YA.2.2.2.2.2.1 (Or.inl rfl) z
  have e2 : 1 < gt → c_v1 (m_yh r) = x1 := fun z => YA.2.2.2.2.2.2.1 rfl z
  have e3 : 2 < gt → c_v2 (m_yh r) = x2 := fun z => YA.2.2.2.2.2.2.2.1 rfl z
  have e2' : 1 < gt → c_v1 (m_yh r) = x1 := e2
  have e3' : 2 < gt → c_v2 (m_yh r) = x2 := e3
  clear e2 e3
  have k0 : c_node (m_yh r) = nI nd := YA.1
  have k1 : c_act (m_yh r) = nI ev := YA.2.1
  have km : c_mode (m_yh r) = 0 := YA.2.2.2.1
  have kb : c_bVar (m_yh r) = -1 := (YA.2.2.2.2.1 trivial).1
  have YFr : yL g c_node c_got c_handle c_pTarget c_pPlace c_act c_mode c_bVar c_pType c_v0 c_v1 c_v2 c_last c_bVal c_pVal (((nd, ev, 0, []), (gt, x0, x1, x2), (la, 0, bx, ty), dt, sc, sr, tg, pl) :: r) := ⟨YA, Yr⟩
  have ht0 := F.2.2.2.2.2.2.1 (by show (0 : Nat) ≠ 7; decide)
  have AP : ∀ {k}, gO g nd = k → m_app g ((nd, ev, 0, []), (gt, x0, x1, x2), (la, 0, bx, ty), dt, sc, sr, tg, pl) r s = m_apk g ((nd, ev, 0, []), (gt, x0, x1, x2), (la, 0, bx, ty), dt, sc, sr, tg, pl) r s k := fun e => congrArg (m_apk g ((nd, ev, 0, []), (gt, x0, x1, x2), (la, 0, bx, ty), dt, sc, sr, tg, pl) r s) e
  have FIN : ∀ v, m_app g ((nd, ev, 0, []), (gt, x0, x1, x2), (la, 0, bx, ty), dt, sc, sr, tg, pl) r s = m_dlv r v s → P (yU g h_count h_open h_types c_sort c_op c_na c_nb c_up c_val c_size c_params c_parent (y_z0 oc) 1 (sBe s) s (m_yh r) v xt xv xy xp 1 0 gv gh c_node c_got c_handle c_pTarget c_pPlace c_act c_mode c_bVar c_pType c_v0 c_v1 c_v2 c_last c_bVal c_pVal) := fun v e => h _ (by rw [e]; exact y_dlv hg Yr)
  have RAI : ∀ t d, m_app g ((nd, ev, 0, []), (gt, x0, x1, x2), (la, 0, bx, ty), dt, sc, sr, tg, pl) r s = m_raise g ((nd, ev, 0, []), (gt, x0, x1, x2), (la, 0, bx, ty), dt, sc, sr, tg, pl) r t d s → P (yU g h_count h_open h_types c_sort c_op c_na c_nb c_up c_val c_size c_params c_parent (y_z0 oc) 1 (sBe s) s (m_yh r + 1 + 1) ret xt xv xy xp 0 0 gv gh (upd c_node (m_yh r + 1) (-1)) (upd (upd c_got (m_yh r + 1) 0) (m_yh r + 1) (nI (m_yh r + 1) - 1)) c_handle c_pTarget c_pPlace (upd c_act (m_yh r + 1) 0) (upd (upd c_mode (m_yh r + 1) 0) (m_yh r + 1) (if gO g nd = 20 then 0 else 1)) (upd c_bVar (m_yh r + 1) (-1)) c_pType (upd c_v0 (m_yh r + 1) (nI t)) (upd c_v1 (m_yh r + 1) d) (upd c_v2 (m_yh r + 1) (nI nd)) (upd c_last (m_yh r + 1) 0) c_bVal c_pVal) := by
    intro t d e
    refine h _ ?_
    rw [e]
    refine Or.inl ⟨oc, sBe s, m_yh r + 2, ret, xt, xv, xy, xp, 0, 0, gv, gh, _, _, _, _, _, _, _, _, _, _, _, _, _, _, _, hg, fun _ => ⟨rfl, ⟨?_, ?_, ?_, pk_us, pk_us, pk_us, pk_us, pk_us, ?_⟩, yL_keep W Yr (yE_u yE_r (by omega)) (yE_u (yE_u yE_r (by omega)) (by omega)) yE_r yE_r yE_r (yE_u yE_r (by omega)) (yE_u (yE_u yE_r (by omega)) (by omega)) (yE_u yE_r (by omega)) yE_r (yE_u yE_r (by omega)) (yE_u yE_r (by omega)) (yE_u yE_r (by omega)) (yE_u yE_r (by omega)) yE_r yE_r⟩, fun z => (by cases z), fun z => (by cases z), fun _ => rfl, fun z => (by cases z), fun _ => rfl, rfl⟩
    · rw [pk_un (by omega)]; exact k0
    · rw [pk_un (by omega), pk_un (by omega)]; exact km
    · rw [pk_un (by omega)]; exact kb
    · rw [pk_us, nI_pred]
      show nI (m_yh r) = if r.length = r.length then nI (m_yh r) else _
      rw [if_pos rfl]
  have EXI : ∀ v h', m_app g ((nd, ev, 0, []), (gt, x0, x1, x2), (la, 0, bx, ty), dt, sc, sr, tg, pl) r s = (3, v, some h', 0, 0, ((nd, ev, 0, []), (gt, x0, x1, x2), (la, 0, bx, ty), dt, sc, sr, tg, pl) :: r, s) → P (yU g h_count h_open h_types c_sort c_op c_na c_nb c_up c_val c_size c_params c_parent (y_z0 oc) 1 (sBe s) s (m_yh r + 1) ret (nI (y_at (((nd, ev, 0, []), (gt, x0, x1, x2), (la, 0, bx, ty), dt, sc, sr, tg, pl) :: r) h')) v xy xp 0 1 gv gh c_node c_got c_handle c_pTarget c_pPlace c_act c_mode c_bVar c_pType c_v0 c_v1 c_v2 c_last c_bVal c_pVal) := by
    intro v h' e
    refine h _ ?_
    rw [e]
    exact Or.inl ⟨oc, sBe s, m_yh r + 1, ret, nI (y_at (((nd, ev, 0, []), (gt, x0, x1, x2), (la, 0, bx, ty), dt, sc, sr, tg, pl) :: r) h'), v, xy, xp, 0, 1, gv, gh, c_node, c_got, c_handle, c_pTarget, c_pPlace, c_act, c_mode, c_bVar, c_pType, c_v0, c_v1, c_v2, c_last, c_bVal, c_pVal, hg, fun _ => ⟨rfl, YFr⟩, fun z => (by cases z), fun z => (by cases z), fun z => (by cases z), fun _ => ⟨rfl, rfl, rfl, rfl, fun z => (by cases z)⟩, fun _ => rfl, rfl⟩
  have Wf : w_l g V Z pa 0 (((nd, ev, 0, []), (gt, x0, x1, x2), (la, 0, bx, ty), dt, sc, sr, tg, pl) :: r) := ⟨F, W⟩
  have hyf : m_yh (((nd, ev, 0, []), (gt, x0, x1, x2), (la, 0, bx, ty), dt, sc, sr, tg, pl) :: r) = m_yh r + 1 := rfl
  refine xx_n n4 ?_
  refine xx_n hk ?_
  refine xx_n hk ?_
  rcases fo_ops (gO g nd) (by omega) o6 o7 o9 o10 o11 o13 o15 o16 with o | o | o | o | o | o | o | o | o | o | o | o | o | o | o | o | o
  · rw [o]
    repeat first | refine br_t (by decide) ?_ | refine br_f (by decide) ?_
    rw [d5 (by rw [o]; decide), d6 (by rw [o]; decide)]
    exact y_done (m_yh r) (FIN _ (AP o))
  · rw [o]
    repeat first | refine br_t (by decide) ?_ | refine br_f (by decide) ?_
    rw [d5 (by rw [o]; decide), d6 (by rw [o]; decide)]
    exact y_done (m_yh r) (FIN _ (AP o))
  · rw [o]
    repeat first | refine br_t (by decide) ?_ | refine br_f (by decide) ?_
    rw [d5 (by rw [o]; decide), d6 (by rw [o]; decide)]
    exact y_done (m_yh r) (FIN _ (AP o))
  · rw [o]
    refine br_f (by decide) (br_t (by decide) ?_)
    rw [d5 (by rw [o]; decide), d6 (by rw [o]; decide)]
    refine fb_if Iff.rfl (fun e => ?_) (fun e => ?_)
    · refine y_raise (m_yh r + 1) nd (by omega) (Or.inr rfl) ?_
      have := RAI 3 x0 ((AP o).trans (if_pos e))
      rw [if_neg (by omega)] at this
      exact this
    · repeat first | refine br_t (by decide) ?_ | refine br_f (by decide) ?_
      refine br_f e ⟨e, ?_⟩
      exact y_done (m_yh r) (FIN _ ((AP o).trans (if_neg e)))
  · rw [o]
    repeat first | refine br_t (by decide) ?_ | refine br_f (by decide) ?_
    rw [d5 (by rw [o]; decide), d6 (by rw [o]; decide)]
    refine fb_if Iff.rfl (fun e => ?_) (fun e => ?_)
    · exact y_done (m_yh r) (FIN 0 ((AP o).trans (congrArg (fun z => m_dlv r z s) (if_pos e))))
    · exact y_done (m_yh r) (FIN 1 ((AP o).trans (congrArg (fun z => m_dlv r z s) (if_neg e))))
  · rw [o]
    repeat first | refine br_t (by decide) ?_ | refine br_f (by decide) ?_
    rw [d5 (by rw [o]; decide), d6 (by rw [o]; decide)]
    refine fb_if Iff.rfl (fun e => ?_) (fun e => ?_)
    · exact y_done (m_yh r) (FIN 1 ((AP o).trans (congrArg (fun z => m_dlv r z s) (if_pos e))))
    · exact y_done (m_yh r) (FIN 0 ((AP o).trans (congrArg (fun z => m_dlv r z s) (if_neg e))))
  · rw [o]
    repeat first | refine br_t (by decide) ?_ | refine br_f (by decide) ?_
    rw [d5 (by rw [o]; decide), tma (by unfold fo_ma; omega)]
    refine ⟨vp_in_nI hk (by decide), ?_⟩
    rw [nI_clamp (by omega), k1]
    have hA := har.1 o
    by_cases a8 : gA g nd < 8
    · have eb : ∀ {Q : Int32 → Prop} (n : Nat) (j : Nat), (∀ x, Q x) → j ≤ 520 → j < n → wY_binding_7 Q (nI (gA g nd)) (nI (gD g)) (nI (gF g)) h_count h_open h_types (nI (m_yh r + 1)) ret xt xv xy xp 0 0 1 ((y_z0 oc).1) ((y_z0 oc).2.1) ((y_z0 oc).2.2.1) ((y_z0 oc).2.2.2.1) ((y_z0 oc).2.2.2.2) (nI (sBe s)) (nI (sPr s)) c_sort c_op c_na c_nb c_up c_val c_size c_params c_parent gv (sCe s) (sLo s) gh c_node c_got c_handle c_pTarget c_pPlace c_act c_mode c_bVar c_pType c_v0 c_v1 c_v2 c_last c_bVal c_pVal (sOu s) n (nI j - 1) := by
        intro Q n
        induction n with
        | zero => intro j _ _ z; omega
        | succ n ih =>
          intro j hQ hj hn
          rw [wY_binding_7]
          cases j with
          | zero => exact br_t (by decide) (hQ _)
          | succ j =>
            rw [nI_pred]
            refine br_f (nI_pos (by omega)) ⟨vp_in_nI (by omega) (by decide), br_c (fun _ => hQ _) (fun _ => ?_)⟩
            exact nm_r (fo_m1 j) (ih j hQ (by omega) (by omega))
      unfold wpY_assign
      dsimp only
      refine nm_e ⟨m_yh r + 2, ?_⟩
      refine eb (m_yh r + 2) (m_yh r + 1) (fun x => ?_) (by omega) (by omega)
      refine br_f (nI_ge (b := 8) a8 (by decide)) ?_
      have ei : 8 * nI ev + nI (gA g nd) = nI (8 * ev + gA g nd) := by
        rw [show (8 : Int32) = nI 8 from rfl, pk_mul, nI_add]
      rw [ei]
      refine ⟨vp_in_nI (by omega) (by decide), ?_⟩
      rw [nI_clamp (by omega)]
      refine nm_e ?_
      refine y_done (m_yh r) ?_
      refine h _ ?_
      rw [(AP o).trans (if_pos a8)]
      exact y_dlv (s := s_lo s (upd (sLo s) (8 * ev + gA g nd) x0)) hg Yr
    · have e0 := (AP o).trans (if_neg a8)
      have hbi : y_bi (gA g nd) (((nd, ev, 0, []), (gt, x0, x1, x2), (la, 0, bx, ty), dt, sc, sr, tg, pl) :: r) = y_bi (gA g nd) r := if_neg (by show ¬ 0 = gA g nd; omega)
      unfold wpY_assign
      dsimp only
      refine y_bind (l := ((nd, ev, 0, []), (gt, x0, x1, x2), (la, 0, bx, ty), dt, sc, sr, tg, pl) :: r) (gA g nd) (by omega) hA Wf (fun q r' e => by injection e with e _; rw [← e]; exact ⟨by show (0 : Nat) ≠ 4; decide, by show (0 : Nat) ≠ 8; decide⟩) YFr (by rw [hyf]; omega) ?_
      rw [hbi]
      refine br_t (nI_le (a := 8) (by omega) (by omega)) ?_
      obtain ⟨i1, i2⟩ := y_bif (gl := sGl s) (gA g nd) (by omega) W ht0 Yr
      cases hm : m_set (gA g nd) x0 r with
      | some r' =>
        have hm' : m_set (gA g (fr_nd ((nd, ev, 0, []), (gt, x0, x1, x2), (la, 0, bx, ty), dt, sc, sr, tg, pl))) (fr_x0 ((nd, ev, 0, []), (gt, x0, x1, x2), (la, 0, bx, ty), dt, sc, sr, tg, pl)) r = some r' := hm
        rw [hm'] at e0
        have sh := m_set_sh hm
        cases hbk : y_bi (gA g nd) r with
        | none =>
          have c1 := y_bn (x := x0) hbk
          exact absurd hm (by rw [c1]; simp)
        | some k =>
          obtain ⟨j1, j2⟩ := yL_set hm (by omega) W ht0 Yr hbk
          refine br_f (nI_pos (by omega)) ?_
          refine ⟨vp_in_nI (by omega) (by decide), ?_⟩
          rw [show (y_ox (some k)).toNatClampNeg = k from nI_clamp (by omega)]
          refine nm_e ?_
          refine y_done (m_yh r) ?_
          refine h _ ?_
          rw [e0, (m_sh_fun (g := g) (Z := Z) sh).2.2.1]
          exact y_dlv hg j2
      | none =>
        have hm' : m_set (gA g (fr_nd ((nd, ev, 0, []), (gt, x0, x1, x2), (la, 0, bx, ty), dt, sc, sr, tg, pl))) (fr_x0 ((nd, ev, 0, []), (gt, x0, x1, x2), (la, 0, bx, ty), dt, sc, sr, tg, pl)) r = none := hm
        rw [hm'] at e0
        obtain ⟨a1, a2⟩ := m_set_none (gl := sGl s) hm
        have hbk : y_bi (gA g nd) r = none := y_bnn a2
        rw [hbk]
        refine br_t (by decide) ?_
        refine ⟨vp_in_nI hA (by decide), ?_⟩
        rw [nI_clamp (by omega), show vp_nar .boolean 1 = 1 by decide]
        refine nm_e ⟨vp_in_nI hA (by decide), nm_e ?_⟩
        refine y_done (m_yh r) ?_
        refine h _ ?_
        rw [e0]
        refine y_dlv (s := s_gl s (fun v => if v = gA g nd then some x0 else sGl s v)) (gv := upd gv (gA g nd) x0) (gh := upd gh (gA g nd) 1) ?_ Yr
        intro j hj
        show x_sp _ _ (if 8 + j = gA g nd then some x0 else sGl s (8 + j))
        by_cases e : 8 + j = gA g nd
        · rw [e, pk_us, pk_us, if_pos rfl]
          exact ⟨rfl, rfl⟩
        · rw [pk_un e, pk_un e, if_neg e]
          exact hg j hj
  · rw [o]
    repeat first | refine br_t (by decide) ?_ | refine br_f (by decide) ?_
    rw [d5 (by rw [o]; decide), tma (by unfold fo_ma; omega)]
    refine Yt.2.2.2.1 nd f1 o _ _ _ _ _ _ _ _ _ _ _ _ _ _ _ _ _ _ _ _ _ _ _ _ _ _ _ _ _ _ _ _ _ _ _ _ _ _ _ ?_
    have hRO := (N0.2.2.2.2.2.2.2.2.2.2 o).1
    obtain ⟨h', hh⟩ := w_ret G F W o
    have hh' : m_find (fun q => decide (fr_nd q = gR g nd ∧ fr_ev q = ev)) (((nd, ev, 0, []), (gt, x0, x1, x2), (la, 0, bx, ty), dt, sc, sr, tg, pl) :: r) = some h' := hh
    have hR392 : gR g nd < 392 := by
      obtain ⟨q, r', z1, z2, z3⟩ := m_find_some hh'
      have z4 := (of_decide_eq_true z3).1
      rw [← z4]
      rcases List.suffix_cons_iff.mp z1 with z | z
      · injection z with z _
        rw [z]; exact n4
      · exact (G.1 _ (w_suf W z).1.1).2.2.2.1
    refine nm_e ⟨m_yh r + 2, ?_⟩
    have := y_scan (g := g) (V := V) (Z := Z) (pa := pa) (Lp := fun n x => wY_apply_95 P (nI (m_yh r)) x0 (nI (gR g nd)) (nI (gD g)) (nI (gF g)) h_count h_open h_types (nI (m_yh r + 1)) ret xt xv xy xp 0 0 1 ((y_z0 oc).1) ((y_z0 oc).2.1) ((y_z0 oc).2.2.1) ((y_z0 oc).2.2.2.1) ((y_z0 oc).2.2.2.2) (nI (sBe s)) (nI (sPr s)) c_sort c_op c_na c_nb c_up c_val c_size c_params c_parent gv (sCe s) (sLo s) gh c_node c_got c_handle c_pTarget c_pPlace c_act c_mode c_bVar c_pType c_v0 c_v1 c_v2 c_last c_bVal c_pVal (sOu s) n x) (pr := fun q => decide (fr_nd q = gR g nd ∧ fr_ev q = ev)) (L0 := ((nd, ev, 0, []), (gt, x0, x1, x2), (la, 0, bx, ty), dt, sc, sr, tg, pl) :: r) ?_ ?_ ?_ ?_ ?_ (((nd, ev, 0, []), (gt, x0, x1, x2), (la, 0, bx, ty), dt, sc, sr, tg, pl) :: r) 0 Wf YFr (by rw [hyf]; omega) (List.suffix_refl _) rfl (m_yh r + 2) (by rw [hyf]; omega)
    · exact this
    · intro f' r' w' Wq hp
      have z := w_48l Wq.2.2.1 hp
      refine decide_eq_false (fun y => z ?_)
      rw [y.1]; exact hRO
    · intro n k hk2 hnode hpos hL
      have hk1 := hpos (by rw [hh']; simp)
      show wY_apply_95 _ _ _ _ _ _ _ _ _ _ _ _ _ _ _ _ _ _ _ _ _ _ _ _ _ _ _ _ _ _ _ _ _ _ _ _ _ _ _ _ _ _ _ _ _ _ _ _ _ _ _ _ _ _ _ _
      rw [wY_apply_95]
      refine br_f (nI_nle hk1 (by omega)) ⟨vp_in_nI hk2 (by decide), ?_⟩
      rw [nI_clamp (by omega), hnode]
      refine br_f ?_ (nm_r (fo_m1 k) hL)
      intro z
      have : (0 : Int32) ≤ -1 := by rw [z]; exact nI_pos' (by omega)
      exact absurd this (by decide)
    · intro n f' r' w' Wq hcase hnode hk2 hpf hpos hL
      have hk1 := hpos (by rw [hh']; simp)
      have hn4 := (G.1 _ Wq.1).2.2.2.1
      have hpf := of_decide_eq_false hpf
      rw [wY_apply_95]
      refine br_f (nI_nle hk1 (by omega)) ⟨vp_in_nI hk2 (by decide), ?_⟩
      rw [nI_clamp (by omega), hnode]
      refine fb_if (nI_eq (by omega) (by omega)) (fun z => ?_) (fun z => nm_r (fo_m1 _) hL)
      refine ⟨vp_in_nI hk2 (by decide), vp_in_nI hk (by decide), ?_⟩
      rw [nI_clamp (n := m_yh r) (by omega), k1]
      rcases hcase with ⟨h4, _⟩ | ⟨_, _, _, yA'⟩
      · exact absurd (by rw [z]; exact hRO) (w_48l Wq.2.2.1 (Or.inl h4))
      · have hact : c_act (m_yh r') = nI (fr_ev f') := by
          obtain ⟨⟨nd', ev', ph', rm'⟩, ⟨gt', x0', x1', x2'⟩, ⟨la', bv', bx', ty'⟩, dt', sc', sr', tg', pl'⟩ := f'
          exact yA'.2.1
        have hev := Wq.2.1
        rw [hact]
        refine br_f (xx_ne (fun y => hpf ⟨z, y⟩) (by omega) (by omega)) (nm_r (fo_m1 _) hL)
    · intro n f' r' w' Wq h4 h7 h8 yA' hk2 hpt hfind hsuf
      have hpt := of_decide_eq_true hpt
      have hact : c_act (m_yh r') = nI (fr_ev f') ∧ c_node (m_yh r') = nI (fr_nd f') := by
        obtain ⟨⟨nd', ev', ph', rm'⟩, ⟨gt', x0', x1', x2'⟩, ⟨la', bv', bx', ty'⟩, dt', sc', sr', tg', pl'⟩ := f'
        exact ⟨yA'.2.1, yA'.1⟩
      have fin : P (yU g h_count h_open h_types c_sort c_op c_na c_nb c_up c_val c_size c_params c_parent (y_z0 oc) 1 (sBe s) s (m_yh r + 1) ret (nI (m_yh r')) x0 xy xp 0 1 gv gh c_node c_got c_handle c_pTarget c_pPlace c_act c_mode c_bVar c_pType c_v0 c_v1 c_v2 c_last c_bVal c_pVal) := by
        have e0 := AP o
        have e0 : m_app g ((nd, ev, 0, []), (gt, x0, x1, x2), (la, 0, bx, ty), dt, sc, sr, tg, pl) r s = (3, x0, m_find (fun q => decide (fr_nd q = gR g nd ∧ fr_ev q = ev)) (((nd, ev, 0, []), (gt, x0, x1, x2), (la, 0, bx, ty), dt, sc, sr, tg, pl) :: r), 0, 0, ((nd, ev, 0, []), (gt, x0, x1, x2), (la, 0, bx, ty), dt, sc, sr, tg, pl) :: r, s) := e0
        rw [hfind] at e0
        have := EXI x0 _ e0
        rw [y_at_len hsuf] at this
        exact this
      rw [wY_apply_95]
      refine br_c (fun _ => fin) (fun _ => ⟨vp_in_nI hk2 (by decide), ?_⟩)
      rw [nI_clamp (by omega), hact.2]
      refine br_t (by rw [hpt.1]) ⟨vp_in_nI hk2 (by decide), vp_in_nI hk (by decide), ?_⟩
      rw [nI_clamp (n := m_yh r) (by omega), k1, hact.1]
      exact br_t (by rw [hpt.2]) fin
    · intro z
      rw [hh'] at z; cases z
  · rw [o]
    repeat first | refine br_t (by decide) ?_ | refine br_f (by decide) ?_
    rw [d5 (by rw [o]; decide), d6 (by rw [o]; decide)]
    have e0 := AP o
    have e0 : m_app g ((nd, ev, 0, []), (gt, x0, x1, x2), (la, 0, bx, ty), dt, sc, sr, tg, pl) r s = (match m_find (fun q => decide (fr_ph q = 1 ∧ gO g (fr_nd q) = 13 ∧ fr_x0 q = x0)) (((nd, ev, 0, []), (gt, x0, x1, x2), (la, 0, bx, ty), dt, sc, sr, tg, pl) :: r) with
        | some h => (3, x1, some h, 0, 0, ((nd, ev, 0, []), (gt, x0, x1, x2), (la, 0, bx, ty), dt, sc, sr, tg, pl) :: r, s)
        | none => m_raise g ((nd, ev, 0, []), (gt, x0, x1, x2), (la, 0, bx, ty), dt, sc, sr, tg, pl) r 5 x0 s) := e0
    refine nm_e ⟨m_yh r + 2, ?_⟩
    have := y_scan (g := g) (V := V) (Z := Z) (pa := pa) (Lp := fun n x => wY_apply_159 P (nI nd) x0 x1 (nI (gD g)) (nI (gF g)) h_count h_open h_types (nI (m_yh r + 1)) ret xt xv xy xp 0 0 1 ((y_z0 oc).1) ((y_z0 oc).2.1) ((y_z0 oc).2.2.1) ((y_z0 oc).2.2.2.1) ((y_z0 oc).2.2.2.2) (nI (sBe s)) (nI (sPr s)) c_sort c_op c_na c_nb c_up c_val c_size c_params c_parent gv (sCe s) (sLo s) gh c_node c_got c_handle c_pTarget c_pPlace c_act c_mode c_bVar c_pType c_v0 c_v1 c_v2 c_last c_bVal c_pVal (sOu s) n x) (pr := fun q => decide (fr_ph q = 1 ∧ gO g (fr_nd q) = 13 ∧ fr_x0 q = x0)) (L0 := ((nd, ev, 0, []), (gt, x0, x1, x2), (la, 0, bx, ty), dt, sc, sr, tg, pl) :: r) ?_ ?_ ?_ ?_ ?_ (((nd, ev, 0, []), (gt, x0, x1, x2), (la, 0, bx, ty), dt, sc, sr, tg, pl) :: r) 0 Wf YFr (by rw [hyf]; omega) (List.suffix_refl _) rfl (m_yh r + 2) (by rw [hyf]; omega)
    · exact this
    · intro f' r' w' Wq hp
      refine decide_eq_false (fun y => ?_)
      omega
    · intro n k hk2 hnode hpos hL
      rw [wY_apply_159]
      refine br_f (nI_pos (by omega)) ⟨vp_in_nI hk2 (by decide), ?_⟩
      rw [nI_clamp (by omega), hnode]
      exact br_t (by decide) (nm_r (fo_m1 k) hL)
    · intro n f' r' w' Wq hcase hnode hk2 hpf hpos hL
      have hn4 := (G.1 _ Wq.1).2.2.2.1
      have hO' := w_lsO Wq.2.2.1 (by rcases hcase with z | z; omega; exact z.2.2.1)
      have hop' := ((Yt.1 _ Wq.1).2.2.1 hO').2
      have hpf := of_decide_eq_false hpf
      rw [wY_apply_159]
      refine br_f (nI_pos (by omega)) ⟨vp_in_nI hk2 (by decide), ?_⟩
      rw [nI_clamp (n := m_yh r') (by omega), hnode]
      refine br_f (y_nneg hn4) ⟨vp_in_nI hk2 (by decide), vp_in_nI hn4 (by decide), ?_⟩
      rw [nI_clamp (n := fr_nd f') (by omega), hop']
      refine fb_if (nI_eq (b := 13) (by omega) (by decide)) (fun z => ?_) (fun z => nm_r (fo_m1 _) hL)
      refine ⟨vp_in_nI hk2 (by decide), ?_⟩
      rcases hcase with ⟨h4, _⟩ | ⟨h4, h7, h8, yA'⟩
      · exfalso
        obtain ⟨⟨nd', ev', ph', rm'⟩, ⟨gt', x0', x1', x2'⟩, ⟨la', bv', bx', ty'⟩, dt', sc', sr', tg', pl'⟩ := f'
        have h4 : ph' = 4 := h4
        have z : gO g nd' = 13 := z
        rcases Wq.2.2.1 with h | h | h | h | h | h | h | h | h | h <;> omega
      · obtain ⟨w1, w2⟩ := w_got13 Wq.2.2.1 z h4
        have hKl := (w_ks G Wq.1).2.1
        have hgot : c_got (m_yh r') = nI (fr_gt f') ∧ (fr_ph f' = 1 → 0 < fr_gt f' → c_v0 (m_yh r') = fr_x0 f') := by
          obtain ⟨⟨nd', ev', ph', rm'⟩, ⟨gt', x0', x1', x2'⟩, ⟨la', bv', bx', ty'⟩, dt', sc', sr', tg', pl'⟩ := f'
          exact ⟨yA'.2.2.1, fun a b => yA'.2.2.2.2.2.1 (Or.inr (Or.inr ⟨a, Or.inl z⟩)) b⟩
        rw [hgot.1]
        refine fb_if (nI_leI (b := 0) (by omega) (by decide)) (fun y => nm_r (fo_m1 _) hL) (fun y => ?_)
        refine ⟨vp_in_nI hk2 (by decide), ?_⟩
        have y1 := w1.mp (by omega)
        rw [hgot.2 y1 (by omega)]
        exact br_f (fun x => hpf ⟨y1, z, x⟩) (nm_r (fo_m1 _) hL)
    · intro n f' r' w' Wq h4 h7 h8 yA' hk2 hpt hfind hsuf
      have hn4 := (G.1 _ Wq.1).2.2.2.1
      have hO' := w_lsO Wq.2.2.1 h8
      have hop' := ((Yt.1 _ Wq.1).2.2.1 hO').2
      obtain ⟨t1, t2, t3⟩ := of_decide_eq_true hpt
      obtain ⟨w1, w2⟩ := w_got13 Wq.2.2.1 t2 h4
      have hKl := (w_ks G Wq.1).2.1
      have hgt' := w1.mpr t1
      have hgot : c_node (m_yh r') = nI (fr_nd f') ∧ c_got (m_yh r') = nI (fr_gt f') ∧ c_v0 (m_yh r') = fr_x0 f' := by
        obtain ⟨⟨nd', ev', ph', rm'⟩, ⟨gt', x0', x1', x2'⟩, ⟨la', bv', bx', ty'⟩, dt', sc', sr', tg', pl'⟩ := f'
        exact ⟨yA'.1, yA'.2.2.1, yA'.2.2.2.2.2.1 (Or.inr (Or.inr ⟨t1, Or.inl t2⟩)) hgt'⟩
      rw [wY_apply_159]
      refine br_f (nI_pos (by omega)) ⟨vp_in_nI hk2 (by decide), ?_⟩
      rw [nI_clamp (n := m_yh r') (by omega), hgot.1]
      refine br_f (y_nneg hn4) ⟨vp_in_nI hk2 (by decide), vp_in_nI hn4 (by decide), ?_⟩
      rw [nI_clamp (n := fr_nd f') (by omega), hop', t2]
      refine br_t rfl ⟨vp_in_nI hk2 (by decide), ?_⟩
      rw [hgot.2.1]
      refine br_f (nI_nle hgt' (by omega)) ⟨vp_in_nI hk2 (by decide), ?_⟩
      rw [hgot.2.2]
      refine br_t t3 (br_t (nI_pos' (by omega)) ?_)
      rw [hfind] at e0
      have := EXI x1 _ e0
      rw [y_at_len hsuf] at this
      exact this
    · intro z n
      rw [wY_apply_159]
      refine br_t (by decide) (br_f (by decide) ?_)
      rw [z] at e0
      refine y_raise (m_yh r + 1) nd (by omega) (Or.inr rfl) ?_
      have := RAI 5 x0 e0
      rw [if_neg (by omega)] at this
      exact this
  · rw [o]
    repeat first | refine br_t (by decide) ?_ | refine br_f (by decide) ?_
    rw [d5 (by rw [o]; decide), tma (by unfold fo_ma; omega)]
    have hA := har.2.2.1 (by omega)
    have e0 := AP o
    have e0 : m_app g ((nd, ev, 0, []), (gt, x0, x1, x2), (la, 0, bx, ty), dt, sc, sr, tg, pl) r s = (match m_find (fun q => decide (fr_ph q = 1 ∧ gO g (fr_nd q) = 18 ∧ gA g (fr_nd q) = gA g nd)) (((nd, ev, 0, []), (gt, x0, x1, x2), (la, 0, bx, ty), dt, sc, sr, tg, pl) :: r) with
        | some h => (3, x0, some h, 0, 0, ((nd, ev, 0, []), (gt, x0, x1, x2), (la, 0, bx, ty), dt, sc, sr, tg, pl) :: r, s)
        | none => m_raise g ((nd, ev, 0, []), (gt, x0, x1, x2), (la, 0, bx, ty), dt, sc, sr, tg, pl) r 5 x0 s) := e0
    refine nm_e ⟨m_yh r + 2, ?_⟩
    have := y_scan (g := g) (V := V) (Z := Z) (pa := pa) (Lp := fun n x => wY_apply_261 P (nI nd) (nI (gA g nd)) x0 (nI (gD g)) (nI (gF g)) h_count h_open h_types (nI (m_yh r + 1)) ret xt xv xy xp 0 0 1 ((y_z0 oc).1) ((y_z0 oc).2.1) ((y_z0 oc).2.2.1) ((y_z0 oc).2.2.2.1) ((y_z0 oc).2.2.2.2) (nI (sBe s)) (nI (sPr s)) c_sort c_op c_na c_nb c_up c_val c_size c_params c_parent gv (sCe s) (sLo s) gh c_node c_got c_handle c_pTarget c_pPlace c_act c_mode c_bVar c_pType c_v0 c_v1 c_v2 c_last c_bVal c_pVal (sOu s) n x) (pr := fun q => decide (fr_ph q = 1 ∧ gO g (fr_nd q) = 18 ∧ gA g (fr_nd q) = gA g nd)) (L0 := ((nd, ev, 0, []), (gt, x0, x1, x2), (la, 0, bx, ty), dt, sc, sr, tg, pl) :: r) ?_ ?_ ?_ ?_ ?_ (((nd, ev, 0, []), (gt, x0, x1, x2), (la, 0, bx, ty), dt, sc, sr, tg, pl) :: r) 0 Wf YFr (by rw [hyf]; omega) (List.suffix_refl _) rfl (m_yh r + 2) (by rw [hyf]; omega)
    · exact this
    · intro f' r' w' Wq hp
      refine decide_eq_false (fun y => ?_)
      omega
    · intro n k hk2 hnode hpos hL
      rw [wY_apply_261]
      refine br_f (nI_pos (by omega)) ⟨vp_in_nI hk2 (by decide), ?_⟩
      rw [nI_clamp (by omega), hnode]
      exact br_t (by decide) (nm_r (fo_m1 k) hL)
    · intro n f' r' w' Wq hcase hnode hk2 hpf hpos hL
      have hn4 := (G.1 _ Wq.1).2.2.2.1
      have hO' := w_lsO Wq.2.2.1 (by rcases hcase with z | z; omega; exact z.2.2.1)
      have hop' := ((Yt.1 _ Wq.1).2.2.1 hO').2
      have hpf := of_decide_eq_false hpf
      rw [wY_apply_261]
      refine br_f (nI_pos (by omega)) ⟨vp_in_nI hk2 (by decide), ?_⟩
      rw [nI_clamp (n := m_yh r') (by omega), hnode]
      refine br_f (y_nneg hn4) ⟨vp_in_nI hk2 (by decide), vp_in_nI hn4 (by decide), ?_⟩
      rw [nI_clamp (n := fr_nd f') (by omega), hop']
      refine fb_if (nI_eq (b := 18) (by omega) (by decide)) (fun z => ?_) (fun z => nm_r (fo_m1 _) hL)
      refine ⟨vp_in_nI hk2 (by decide), ?_⟩
      have hna := (Yt.1 _ Wq.1).2.2.2.1 (by unfold fo_ma; omega)
      have hA' := ((G.1 _ Wq.1).2.2.2.2.2.2.2.2.1 hO').2.2.1 (by omega)
      rcases hcase with ⟨h4, _⟩ | ⟨h4, h7, h8, yA'⟩
      · have := w_md18 Wq.2.2.1 z
        omega
      · have hmd : c_mode (m_yh r') = if fr_ph f' = 3 ∨ fr_ph f' = 5 ∨ fr_ph f' = 6 then 1 else 0 := by
          obtain ⟨⟨nd', ev', ph', rm'⟩, ⟨gt', x0', x1', x2'⟩, ⟨la', bv', bx', ty'⟩, dt', sc', sr', tg', pl'⟩ := f'
          exact yA'.2.2.2.1
        rw [hmd]
        rcases w_md18 Wq.2.2.1 z with y | y
        · rw [if_neg (by omega)]
          refine br_t rfl ⟨vp_in_nI hk2 (by decide), vp_in_nI hn4 (by decide), ?_⟩
          rw [hna]
          exact br_f (xx_ne (fun x => hpf ⟨y, z, x⟩) (by omega) (by omega)) (nm_r (fo_m1 _) hL)
        · rw [if_pos (by omega)]
          exact br_f (by decide) (nm_r (fo_m1 _) hL)
    · intro n f' r' w' Wq h4 h7 h8 yA' hk2 hpt hfind hsuf
      have hn4 := (G.1 _ Wq.1).2.2.2.1
      have hO' := w_lsO Wq.2.2.1 h8
      have hop' := ((Yt.1 _ Wq.1).2.2.1 hO').2
      obtain ⟨t1, t2, t3⟩ := of_decide_eq_true hpt
      have hna := (Yt.1 _ Wq.1).2.2.2.1 (by unfold fo_ma; omega)
      have hgot : c_node (m_yh r') = nI (fr_nd f') ∧ c_mode (m_yh r') = if fr_ph f' = 3 ∨ fr_ph f' = 5 ∨ fr_ph f' = 6 then 1 else 0 := by
        obtain ⟨⟨nd', ev', ph', rm'⟩, ⟨gt', x0', x1', x2'⟩, ⟨la', bv', bx', ty'⟩, dt', sc', sr', tg', pl'⟩ := f'
        exact ⟨yA'.1, yA'.2.2.2.1⟩
      rw [wY_apply_261]
      refine br_f (nI_pos (by omega)) ⟨vp_in_nI hk2 (by decide), ?_⟩
      rw [nI_clamp (n := m_yh r') (by omega), hgot.1]
      refine br_f (y_nneg hn4) ⟨vp_in_nI hk2 (by decide), vp_in_nI hn4 (by decide), ?_⟩
      rw [nI_clamp (n := fr_nd f') (by omega), hop', t2]
      refine br_t rfl ⟨vp_in_nI hk2 (by decide), ?_⟩
      rw [hgot.2, if_neg (by omega)]
      refine br_t rfl ⟨vp_in_nI hk2 (by decide), vp_in_nI hn4 (by decide), ?_⟩
      rw [hna, t3]
      refine br_t rfl (br_t (nI_pos' (by omega)) ?_)
      rw [hfind] at e0
      have := EXI x0 _ e0
      rw [y_at_len hsuf] at this
      exact this
    · intro z n
      rw [wY_apply_261]
      refine br_t (by decide) (br_f (by decide) ?_)
      rw [z] at e0
      refine y_raise (m_yh r + 1) nd (by omega) (Or.inr rfl) ?_
      have := RAI 5 x0 e0
      rw [if_neg (by omega)] at this
      exact this
  · rw [o]
    repeat first | refine br_t (by decide) ?_ | refine br_f (by decide) ?_
    rw [d5 (by rw [o]; decide), tma (by unfold fo_ma; omega)]
    refine y_raise (m_yh r + 1) nd (by omega) (Or.inl rfl) ?_
    have := RAI (gA g nd) x0 (AP o)
    rw [if_pos o] at this
    exact this
  · rw [o]
    repeat first | refine br_t (by decide) ?_ | refine br_f (by decide) ?_
    rw [d5 (by rw [o]; decide), tma (by unfold fo_ma; omega)]
    refine y_raise (m_yh r + 1) nd (by omega) (Or.inr rfl) ?_
    have := RAI (gA g nd) x0 (AP o)
    rw [if_neg (by omega)] at this
    exact this
  · rw [o]
    repeat first | refine br_t (by decide) ?_ | refine br_f (by decide) ?_
    rw [d5 (by rw [o]; decide)]
    have e3 := AP o
    have e3 : m_app g ((nd, ev, 0, []), (gt, x0, x1, x2), (la, 0, bx, ty), dt, sc, sr, tg, pl) r s = m_dlv r x0 (s_pr s x0) := e3
    refine fb_if (nI_leI (a := 24) (by decide) (by omega)) (fun e => ?_) (fun e => ?_)
    · refine nm_r (nI_1 _) ?_
      refine y_done (m_yh r) ?_
      have ep : s_pr s x0 = (s.1, s.2.1, s.2.2.1, s.2.2.2.1 + 1, s.2.2.2.2) := by
        unfold s_pr
        rw [if_neg (by show ¬ sPr s < 24; omega)]
      rw [ep] at e3
      refine h _ ?_
      rw [e3]
      exact y_dlv (s := (s.1, s.2.1, s.2.2.1, s.2.2.2.1 + 1, s.2.2.2.2)) hg Yr
    · refine ⟨vp_in_nI (by omega) (by decide), ?_⟩
      rw [nI_clamp (by omega)]
      refine nm_e (nm_r (nI_1 _) ?_)
      refine y_done (m_yh r) ?_
      have ep : s_pr s x0 = (s.1, s.2.1, upd s.2.2.1 s.2.2.2.1 x0, s.2.2.2.1 + 1, s.2.2.2.2) := by
        unfold s_pr
        rw [if_pos (by show sPr s < 24; omega)]
      rw [ep] at e3
      refine h _ ?_
      rw [e3]
      exact y_dlv (s := (s.1, s.2.1, upd s.2.2.1 s.2.2.2.1 x0, s.2.2.2.1 + 1, s.2.2.2.2)) hg Yr
  · rw [o]
    repeat first | refine br_t (by decide) ?_ | refine br_f (by decide) ?_
    rw [tma (by unfold fo_ma; omega)]
    have hA := har.2.2.2.2.1 o
    obtain ⟨s1, s2, s3⟩ := Yt.2.2.2.2.1 (gA g nd) hA
    have hF : gF g ≤ 200 := G.2.2.2.2.2.2.1
    have hD : gD g ≤ 5 := G.2.2.2.2.2.1
    have hP : gP g (gA g nd) ≤ 3 := G.2.2.2.2.2.2.2.2 _
    have e0 := AP o
    have e0 : m_app g ((nd, ev, 0, []), (gt, x0, x1, x2), (la, 0, bx, ty), dt, sc, sr, tg, pl) r s = (if gC g (gA g nd) = 0 then m_raise g ((nd, ev, 0, []), (gt, x0, x1, x2), (la, 0, bx, ty), dt, sc, sr, tg, pl) r 8 (nI (gA g nd)) s
      else if gP g (gA g nd) ≠ (gK g nd).length then m_raise g ((nd, ev, 0, []), (gt, x0, x1, x2), (la, 0, bx, ty), dt, sc, sr, tg, pl) r 9 (nI (gK g nd).length) s
      else if gD g ≤ m_fc r then m_raise g ((nd, ev, 0, []), (gt, x0, x1, x2), (la, 0, bx, ty), dt, sc, sr, tg, pl) r 7 (nI (m_fc r)) s
      else if gF g ≤ sBe s then (6, 0, none, 0, 0, ((nd, ev, 0, []), (gt, x0, x1, x2), (la, 0, bx, ty), dt, sc, sr, tg, pl) :: r, s)
      else m_ev g (56 * gA g nd) (m_fc r + 1) (((nd, ev, 6, []), (gt, x0, x1, x2), (la, 0, bx, ty), dt, sc, sr, tg, pl) :: r) (s_lo (s_be s (sBe s + 1)) (m_lo s (m_fc r + 1) (gK g nd).length x0 x1 x2))) := e0
    refine ⟨1 + (m_yh r + 1), ?_⟩
    refine y_cnt (g := g) (V := V) (Z := Z) (pa := pa) (Lp := fun n c k => wY_call_6 P (nI (m_yh r)) (nI nd) (nI (gA g nd)) (nI (gD g)) (nI (gF g)) h_count h_open h_types (nI (m_yh r + 1)) ret xt xv xy xp 0 0 1 ((y_z0 oc).1) ((y_z0 oc).2.1) ((y_z0 oc).2.2.1) ((y_z0 oc).2.2.2.1) ((y_z0 oc).2.2.2.2) (nI (sBe s)) (nI (sPr s)) c_sort c_op c_na c_nb c_up c_val c_size c_params c_parent gv (sCe s) (sLo s) gh c_node c_got c_handle c_pTarget c_pPlace c_act c_mode c_bVar c_pType c_v0 c_v1 c_v2 c_last c_bVal c_pVal (sOu s) n (nI c) (nI k)) (M := m_yh r + 1) ?_ ?_ (((nd, ev, 0, []), (gt, x0, x1, x2), (la, 0, bx, ty), dt, sc, sr, tg, pl) :: r) 0 Wf YFr (Nat.le_refl _) 1 ?_
    · intro n c k hk2 hnode hL
      show wY_call_6 _ _ _ _ _ _ _ _ _ _ _ _ _ _ _ _ _ _ _ _ _ _ _ _ _ _ _ _ _ _ _ _ _ _ _ _ _ _ _ _ _ _ _ _ _ _ _ _ _ _ _ _ _ _ _ _ _
      rw [wY_call_6]
      refine br_f (nI_ge (a := k) (b := m_yh r + 1) hk2 (by omega)) ⟨vp_in_nI (by omega) (by decide), ?_⟩
      rw [nI_clamp (by omega), hnode]
      exact br_t (by decide) (nm_r (nI_1 k) hL)
    · intro n c f' r' w' Wq hcase hnode hk2 hL
      have hn4 := (G.1 _ Wq.1).2.2.2.1
      have hO' := w_lsO Wq.2.2.1 (by rcases hcase with z | z; omega; exact z.2.2.1)
      have hop' := ((Yt.1 _ Wq.1).2.2.1 hO').2
      show wY_call_6 _ _ _ _ _ _ _ _ _ _ _ _ _ _ _ _ _ _ _ _ _ _ _ _ _ _ _ _ _ _ _ _ _ _ _ _ _ _ _ _ _ _ _ _ _ _ _ _ _ _ _ _ _ _ _ _ _
      rw [wY_call_6]
      refine br_f (nI_ge (a := m_yh r') (b := m_yh r + 1) hk2 (by omega)) ⟨vp_in_nI (by omega) (by decide), ?_⟩
      rw [nI_clamp (n := m_yh r') (by omega), hnode]
      refine br_f (y_nneg hn4) ⟨vp_in_nI (by omega) (by decide), vp_in_nI hn4 (by decide), ?_⟩
      rw [nI_clamp (n := fr_nd f') (by omega), hop']
      refine fb_if (nI_eq (b := 23) (by omega) (by decide)) (fun z => ?_) (fun z => ?_)
      · refine ⟨vp_in_nI (by omega) (by decide), ?_⟩
        have hmd : c_mode (m_yh r') = if fr_ph f' = 6 then 1 else 0 := by
          rcases hcase with ⟨h4, hm4⟩ | ⟨h4, h7, h8, yA'⟩
          · rw [if_neg (by omega)]; exact hm4
          · have hmd : c_mode (m_yh r') = if fr_ph f' = 3 ∨ fr_ph f' = 5 ∨ fr_ph f' = 6 then 1 else 0 := by
              obtain ⟨⟨nd', ev', ph', rm'⟩, ⟨gt', x0', x1', x2'⟩, ⟨la', bv', bx', ty'⟩, dt', sc', sr', tg', pl'⟩ := f'
              exact yA'.2.2.2.1
            rw [hmd]
            rcases w_md23 Wq.2.2.1 z with y | y | y
            · rw [if_neg (by omega), if_neg (by omega)]
            · rw [if_neg (by omega), if_neg (by omega)]
            · rw [if_pos (by omega), if_pos y]
        rw [hmd]
        by_cases p6 : fr_ph f' = 6
        · rw [if_pos p6] at hL ⊢
          exact br_t rfl (nm_r (nI_1 c) (nm_r (nI_1 _) hL))
        · rw [if_neg p6] at hL ⊢
          exact br_f (by decide) (nm_r (nI_1 _) hL)
      · rw [if_neg (fun y => z (w_ph6 Wq.2.2.1 y))] at hL
        exact nm_r (nI_1 _) hL
    · show wY_call_6 _ _ _ _ _ _ _ _ _ _ _ _ _ _ _ _ _ _ _ _ _ _ _ _ _ _ _ _ _ _ _ _ _ _ _ _ _ _ _ _ _ _ _ _ _ _ _ _ _ _ _ _ _ _ _ _ _
      rw [wY_call_6]
      refine br_t (nI_le (Nat.le_refl (m_yh r + 1)) (by omega)) ?_
      refine ⟨vp_in_nI hA (by decide), ?_⟩
      rw [nI_clamp (by omega), s1]
      refine fb_if (nI_eq (b := 0) (by omega) (by decide)) (fun e => ?_) (fun e => ?_)
      · refine y_raise (m_yh r + 1) nd (by omega) (Or.inr rfl) ?_
        have := RAI 8 _ (e0.trans (if_pos e))
        rw [if_neg (by omega)] at this
        exact this
      · rw [if_neg e] at e0
        refine ⟨vp_in_nI hA (by decide), ?_⟩
        refine Yt.2.1 nd f1 _ _ _ _ _ _ _ _ _ _ _ _ _ _ _ _ _ _ _ _ _ _ _ _ _ _ _ _ _ _ _ _ _ _ _ _ _ _ _ ?_
        rw [s3]
        refine fb_if (nI_eq (by omega) (by omega)) (fun e2 => ?_) (fun e2 => ?_)
        · rw [if_neg (by omega)] at e0
          refine fb_if (nI_eq (a := m_fc r) (by omega) (by omega)) (fun e3 => ?_) (fun e3 => ?_)
          · rw [if_pos (by omega)] at e0
            refine y_raise (m_yh r + 1) nd (by omega) (Or.inr rfl) ?_
            have := RAI 7 _ e0
            rw [if_neg (by omega)] at this
            exact this
          · rw [if_neg (by omega)] at e0
            refine y_beat hs.1 hF (fun e4 => ?_) (fun e4 => ?_)
            · rw [if_neg (by omega)] at e0
              refine br_f (by decide) ?_
              refine yy_w 1 hk y_1b ?_
              have e8 : 8 * (nI (m_fc r) + 1) = nI (8 * (m_fc r + 1)) := by
                rw [nI_1, show (8 : Int32) = nI 8 from rfl, pk_mul]
              refine nm_r e8 ⟨9, ?_⟩
              obtain ⟨wc1, wc2, wc3⟩ := w_call G F W o hA e (by omega)
              have fin : ∀ n', n' = 56 * gA g nd → wpY_evaluate P (yU g h_count h_open h_types c_sort c_op c_na c_nb c_up c_val c_size c_params c_parent (y_z0 oc) 1 (sBe s + 1) (s_lo (s_be s (sBe s + 1)) (m_lo s (m_fc r + 1) (gK g nd).length x0 x1 x2)) (m_yh r + 1) ret xt xv xy xp 0 0 gv gh c_node c_got c_handle c_pTarget c_pPlace c_act (upd c_mode (m_yh r) 1) c_bVar c_pType c_v0 c_v1 c_v2 c_last c_bVal c_pVal) (nI n') (nI (m_fc r + 1)) := by
                intro n' hn'
                subst hn'
                refine y_ev (l := ((nd, ev, 6, []), (gt, x0, x1, x2), (la, 0, bx, ty), dt, sc, sr, tg, pl) :: r) (s := s_lo (s_be s (sBe s + 1)) (m_lo s (m_fc r + 1) (gK g nd).length x0 x1 x2)) G Yt wc3 (by omega) ⟨wc1, W⟩ (fun q r' e => by injection e with e _; rw [← e]; exact ⟨by show (6 : Nat) ≠ 4; decide, by show (6 : Nat) ≠ 8; decide⟩) wc2 (by show sBe s + 1 ≤ gF g; omega) hg ⟨?_, yL_keep W Yr yE_r yE_r yE_r yE_r yE_r yE_r (yE_u yE_r (Nat.le_refl _)) yE_r yE_r yE_r yE_r yE_r yE_r yE_r yE_r⟩ (fun u' hu => h u' (by rw [e0]; exact hu))
                refine (yF_A (f := ((nd, ev, 6, []), (gt, x0, x1, x2), (la, 0, bx, ty), dt, sc, sr, tg, pl)) (by show (6 : Nat) ≠ 7; decide) (by show (6 : Nat) ≠ 4; decide) (by show (6 : Nat) ≠ 8; decide)).mpr ?_
                refine ⟨k0, k1, YA.2.2.1, pk_us, fun _ => ⟨kb, fun z => absurd rfl z⟩, fun z => ?_, fun z => (by cases z), fun z => (by cases z), fun z => (by cases z), fun z => (by cases z), fun z => (by cases z)⟩
                rcases z with z | z | ⟨z, _⟩ <;> cases z
              have f257 : wY_call_257 P (nI (gA g nd)) (nI (m_fc r)) (nI (gD g)) (nI (gF g)) h_count h_open h_types (nI (m_yh r + 1)) ret xt xv xy xp 0 0 1 ((y_z0 oc).1) ((y_z0 oc).2.1) ((y_z0 oc).2.2.1) ((y_z0 oc).2.2.2.1) ((y_z0 oc).2.2.2.2) (nI (sBe s + 1)) (nI (sPr s)) c_sort c_op c_na c_nb c_up c_val c_size c_params c_parent gv (sCe s) (x_lo (sLo s) (m_fc r + 1) (gK g nd).length x0 x1 x2 8) gh c_node c_got c_handle c_pTarget c_pPlace c_act (upd c_mode (m_yh r) 1) c_bVar c_pType c_v0 c_v1 c_v2 c_last c_bVal c_pVal (sOu s) := by
                unfold wY_call_257
                rw [nI_1, show (56 : Int32) = nI 56 from rfl, pk_mul]
                exact fin _ rfl
              have e16 : nI (8 * (m_fc r + 1)) + 1 = nI (8 * (m_fc r + 1) + 1) := nI_1 _
              have e26 : nI (8 * (m_fc r + 1)) + 2 = nI (8 * (m_fc r + 1) + 2) := nI_add _ 2
              have hx := x_lo_0 (sLo s) (m_fc r + 1) 0 x0 x1 x2
              have hkk : gP g (gA g nd) = 0 ∨ gP g (gA g nd) = 1 ∨ gP g (gA g nd) = 2 ∨ gP g (gA g nd) = 3 := by omega
              have H0 : wY_call_161 P (nI (m_yh r)) (nI (gA g nd)) (nI (m_fc r)) (nI (8 * (m_fc r + 1))) (nI (gD g)) (nI (gF g)) h_count h_open h_types (nI (m_yh r + 1)) ret xt xv xy xp 0 0 1 ((y_z0 oc).1) ((y_z0 oc).2.1) ((y_z0 oc).2.2.1) ((y_z0 oc).2.2.2.1) ((y_z0 oc).2.2.2.2) (nI (sBe s + 1)) (nI (sPr s)) 1 8 c_sort c_op c_na c_nb c_up c_val c_size c_params c_parent gv (sCe s) (x_lo (sLo s) (m_fc r + 1) 0 x0 x1 x2 8) gh c_node c_got c_handle c_pTarget c_pPlace c_act (upd c_mode (m_yh r) 1) c_bVar c_pType c_v0 c_v1 c_v2 c_last c_bVal c_pVal (sOu s) := by
                rw [wY_call_161]
                refine br_t (by decide) ⟨vp_in_nI hA (by decide), ?_⟩
                rw [nI_clamp (n := gA g nd) (by omega), s3]
                rw [← e2] at f257
                rcases hkk with k | k | k | k
                · rw [k] at f257 ⊢
                  refine br_t (by decide) ⟨vp_in_nI hA (by decide), ?_⟩
                  rw [nI_clamp (n := gA g nd) (by omega), s3, k]
                  refine br_t (by decide) ⟨vp_in_nI hA (by decide), ?_⟩
                  rw [nI_clamp (n := gA g nd) (by omega), s3, k]
                  exact br_t (by decide) f257
                · rw [k] at f257 ⊢
                  refine br_f (by decide) ⟨vp_in_nI hk (by decide), vp_in_nI (by omega) (by decide), ?_⟩
                  rw [nI_clamp (n := m_yh r) (by omega), nI_clamp (n := 8 * (m_fc r + 1)) (by omega), e1 (by omega)]
                  refine nm_r (y_lo_k (sLo s) (m_fc r + 1) 0 x0 x1 x2 x0 (by decide) rfl) ?_
                  refine ⟨vp_in_nI hA (by decide), ?_⟩
                  rw [nI_clamp (n := gA g nd) (by omega), s3, k]
                  refine br_t (by decide) ⟨vp_in_nI hA (by decide), ?_⟩
                  rw [nI_clamp (n := gA g nd) (by omega), s3, k]
                  exact br_t (by decide) f257
                · rw [k] at f257 ⊢
                  refine br_f (by decide) ⟨vp_in_nI hk (by decide), vp_in_nI (by omega) (by decide), ?_⟩
                  rw [nI_clamp (n := m_yh r) (by omega), nI_clamp (n := 8 * (m_fc r + 1)) (by omega), e1 (by omega)]
                  refine nm_r (y_lo_k (sLo s) (m_fc r + 1) 0 x0 x1 x2 x0 (by decide) rfl) ?_
                  refine ⟨vp_in_nI hA (by decide), ?_⟩
                  rw [nI_clamp (n := gA g nd) (by omega), s3, k]
                  refine br_f (by decide) ⟨vp_in_nI hk (by decide), ?_⟩
                  rw [e16]
                  refine ⟨vp_in_nI (by omega) (by decide), ?_⟩
                  rw [nI_clamp (n := m_yh r) (by omega), nI_clamp (n := 8 * (m_fc r + 1) + 1) (by omega), e2' (by omega)]
                  refine nm_r (y_lo_k (sLo s) (m_fc r + 1) 1 x0 x1 x2 x1 (by decide) rfl) ?_
                  refine ⟨vp_in_nI hA (by decide), ?_⟩
                  rw [nI_clamp (n := gA g nd) (by omega), s3, k]
                  exact br_t (by decide) f257
                · rw [k] at f257 ⊢
                  refine br_f (by decide) ⟨vp_in_nI hk (by decide), vp_in_nI (by omega) (by decide), ?_⟩
                  rw [nI_clamp (n := m_yh r) (by omega), nI_clamp (n := 8 * (m_fc r + 1)) (by omega), e1 (by omega)]
                  refine nm_r (y_lo_k (sLo s) (m_fc r + 1) 0 x0 x1 x2 x0 (by decide) rfl) ?_
                  refine ⟨vp_in_nI hA (by decide), ?_⟩
                  rw [nI_clamp (n := gA g nd) (by omega), s3, k]
                  refine br_f (by decide) ⟨vp_in_nI hk (by decide), ?_⟩
                  rw [e16]
                  refine ⟨vp_in_nI (by omega) (by decide), ?_⟩
                  rw [nI_clamp (n := m_yh r) (by omega), nI_clamp (n := 8 * (m_fc r + 1) + 1) (by omega), e2' (by omega)]
                  refine nm_r (y_lo_k (sLo s) (m_fc r + 1) 1 x0 x1 x2 x1 (by decide) rfl) ?_
                  refine ⟨vp_in_nI hA (by decide), ?_⟩
                  rw [nI_clamp (n := gA g nd) (by omega), s3, k]
                  refine br_f (by decide) ⟨vp_in_nI hk (by decide), ?_⟩
                  rw [e26]
                  refine ⟨vp_in_nI (by omega) (by decide), ?_⟩
                  rw [nI_clamp (n := m_yh r) (by omega), nI_clamp (n := 8 * (m_fc r + 1) + 2) (by omega), e3' (by omega)]
                  exact nm_r (y_lo_k (sLo s) (m_fc r + 1) 2 x0 x1 x2 x2 (by decide) rfl) f257
              have := y_loc (m_fc r + 1) (by omega) H0 8 0 9 (by omega) rfl
              rw [hx] at this
              exact this
            · rw [if_pos e4] at e0
              refine br_t rfl ?_
              refine h _ ?_
              rw [e0]
              exact Or.inl ⟨oc, sBe s, m_yh r + 1, ret, xt, xv, xy, xp, 0, 0, gv, gh, c_node, c_got, c_handle, c_pTarget, c_pPlace, c_act, c_mode, c_bVar, c_pType, c_v0, c_v1, c_v2, c_last, c_bVal, c_pVal, hg, fun z => absurd z (by show ¬ 6 < 4; decide), fun z => (by cases z), fun z => (by cases z), fun z => (by cases z), fun z => (by cases z), fun _ => rfl, rfl⟩
        · rw [if_pos e2] at e0
          refine Yt.2.1 nd f1 _ _ _ _ _ _ _ _ _ _ _ _ _ _ _ _ _ _ _ _ _ _ _ _ _ _ _ _ _ _ _ _ _ _ _ _ _ _ _ ?_
          refine y_raise (m_yh r + 1) nd (by omega) (Or.inr rfl) ?_
          have := RAI 9 _ e0
          rw [if_neg (by omega)] at this
          exact this
  · rw [o]
    repeat first | refine br_t (by decide) ?_ | refine br_f (by decide) ?_
    rw [d5 (by rw [o]; decide), tma (by unfold fo_ma; omega)]
    have hA := har.2.2.2.2.2 (by omega)
    have e0 := AP o
    have e0 : m_app g ((nd, ev, 0, []), (gt, x0, x1, x2), (la, 0, bx, ty), dt, sc, sr, tg, pl) r s = (if x0 < 0 ∨ 16 ≤ x0 then m_raise g ((nd, ev, 0, []), (gt, x0, x1, x2), (la, 0, bx, ty), dt, sc, sr, tg, pl) r 6 x0 s else m_dlv r (sCe s (16 * gA g nd + x0.toNatClampNeg)) s) := e0
    refine fb_if Iff.rfl (fun e => ?_) (fun e => ?_)
    · rw [if_pos (Or.inl e)] at e0
      refine y_raise (m_yh r + 1) nd (by omega) (Or.inr rfl) ?_
      have := RAI 6 x0 e0
      rw [if_neg (by omega)] at this
      exact this
    · refine fb_if y_le15 (fun e2 => ?_) (fun e2 => ?_)
      · rw [if_neg (by rintro (z | z); exact e z; exact e2 z)] at e0
        obtain ⟨j, hj, rfl⟩ := fb_lt 0 16 e e2 (by decide) (by decide)
        rw [Nat.zero_add] at *
        rw [nI_clamp (by omega)] at e0
        have ei : 16 * nI (gA g nd) + nI j = nI (16 * gA g nd + j) := by
          rw [show (16 : Int32) = nI 16 from rfl, pk_mul, nI_add]
        rw [ei]
        refine xx_n (by omega) ?_
        refine br_f (by decide) ?_
        exact y_done (m_yh r) (FIN _ e0)
      · rw [if_pos (Or.inr (Decidable.not_not.mp e2))] at e0
        refine y_raise (m_yh r + 1) nd (by omega) (Or.inr rfl) ?_
        have := RAI 6 x0 e0
        rw [if_neg (by omega)] at this
        exact this
  · rw [o]
    repeat first | refine br_t (by decide) ?_ | refine br_f (by decide) ?_
    rw [d5 (by rw [o]; decide), d6 (by rw [o]; decide), tma (by unfold fo_ma; omega)]
    have hA := har.2.2.2.2.2 (by omega)
    have e0 := AP o
    have e0 : m_app g ((nd, ev, 0, []), (gt, x0, x1, x2), (la, 0, bx, ty), dt, sc, sr, tg, pl) r s = (if x0 < 0 ∨ 16 ≤ x0 then m_raise g ((nd, ev, 0, []), (gt, x0, x1, x2), (la, 0, bx, ty), dt, sc, sr, tg, pl) r 6 x0 s else m_dlv r (sCe s (16 * gA g nd + x0.toNatClampNeg)) (s_ce s (upd (sCe s) (16 * gA g nd + x0.toNatClampNeg) (m_kb (gA g nd) (sCe s (16 * gA g nd + x0.toNatClampNeg) + x1))))) := e0
    refine fb_if Iff.rfl (fun e => ?_) (fun e => ?_)
    · rw [if_pos (Or.inl e)] at e0
      refine y_raise (m_yh r + 1) nd (by omega) (Or.inr rfl) ?_
      have := RAI 6 x0 e0
      rw [if_neg (by omega)] at this
      exact this
    · refine fb_if y_le15 (fun e2 => ?_) (fun e2 => ?_)
      · rw [if_neg (by rintro (z | z); exact e z; exact e2 z)] at e0
        obtain ⟨j, hj, rfl⟩ := fb_lt 0 16 e e2 (by decide) (by decide)
        rw [Nat.zero_add] at *
        rw [nI_clamp (by omega)] at e0
        have ei : 16 * nI (gA g nd) + nI j = nI (16 * gA g nd + j) := by
          rw [show (16 : Int32) = nI 16 from rfl, pk_mul, nI_add]
        rw [ei]
        refine xx_n (by omega) ?_
        refine br_t rfl ?_
        refine y_nar hA ?_
        refine ⟨vp_in_nI (by omega) (by decide), ?_⟩
        rw [nI_clamp (by omega)]
        refine nm_e ?_
        refine y_done (m_yh r) ?_
        refine h _ ?_
        rw [e0]
        exact y_dlv (s := s_ce s (upd (sCe s) (16 * gA g nd + j) (m_kb (gA g nd) (sCe s (16 * gA g nd + j) + x1)))) hg Yr
      · rw [if_pos (Or.inr (Decidable.not_not.mp e2))] at e0
        refine y_raise (m_yh r + 1) nd (by omega) (Or.inr rfl) ?_
        have := RAI 6 x0 e0
        rw [if_neg (by omega)] at this
        exact this
  · rw [o]
    repeat first | refine br_t (by decide) ?_ | refine br_f (by decide) ?_
    rw [tma (by unfold fo_ma; omega)]
    have hA := har.2.1 (by omega)
    have e0 := AP o
    have e0 : m_app g ((nd, ev, 0, []), (gt, x0, x1, x2), (la, 0, bx, ty), dt, sc, sr, tg, pl) r s = m_dlv r (match m_cur (sGl s) (gA g nd) r with
      | some _ => 1
      | none => 0) s := e0
    have hc : m_cur (sGl s) (gA g nd) (((nd, ev, 0, []), (gt, x0, x1, x2), (la, 0, bx, ty), dt, sc, sr, tg, pl) :: r) = m_cur (sGl s) (gA g nd) r := if_neg (by show ¬ 0 = gA g nd; omega)
    refine y_bound (gl := sGl s) (l := ((nd, ev, 0, []), (gt, x0, x1, x2), (la, 0, bx, ty), dt, sc, sr, tg, pl) :: r) (gA g nd) (by omega) hA.2 Wf (fun q r' e => by injection e with e _; rw [← e]; exact ⟨by show (0 : Nat) ≠ 4; decide, by show (0 : Nat) ≠ 8; decide⟩) YFr (by rw [hyf]; omega) hg ?_
    rw [hc]
    cases hm : m_cur (sGl s) (gA g nd) r with
    | none =>
      rw [hm] at e0
      exact br_t rfl (y_done (m_yh r) (FIN 0 e0))
    | some x =>
      rw [hm] at e0
      exact br_f (show ¬ (1 : Int32) = 0 by decide) (y_done (m_yh r) (FIN 1 e0))
end
end
section
/-! the reference's side: going on with a list -/
section
variable {g : mG} {V : Nat → Prop} {Z : Nat → Nat} {pa : Nat → Option Nat} {T : Nat} {h_count h_open h_types : Int32} {c_sort c_op c_na c_nb c_up c_val c_size c_params c_parent : Nat → Int32} {s : St} {oc ret xt xv xy xp ha exi v : Int32} {be : Nat} {gv gh : Nat → Int32} {c_node c_got c_handle c_pTarget c_pPlace c_act c_mode c_bVar c_pType c_v0 c_v1 c_v2 c_last c_bVal c_pVal : Nat → Int32} {l r : List Fr} {f : Fr} {P : SY → Prop} {post : Int32 → SY → Prop} {N i p q : Nat}
theorem w_prc (G : g_w g V Z pa T) {nd ev ph gt bv ty sr : Nat} {x0 x1 x2 la bx dt pl : Int32} {sc : List (Nat × Nat × Nat)} {tg : Option Nat} {c : Nat} {cs : List Nat} (F : w_f g V Z pa 0 ((nd, ev, ph, c :: cs), (gt, x0, x1, x2), (la, bv, bx, ty), dt, sc, sr, tg, pl) r) : V c ∧ w_f g V Z pa 1 ((nd, ev, ph, cs), (gt, x0, x1, x2), (la, bv, bx, ty), dt, sc, sr, tg, pl) r ∧ w_iq g Z c (((nd, ev, ph, cs), (gt, x0, x1, x2), (la, bv, bx, ty), dt, sc, sr, tg, pl) :: r) ∧ ph < 4 ∧ c ∈ gK g nd := by
  obtain ⟨f1, f2, f3, f4, f5, f6, f7, f8, f9, f10⟩ := F
  have f1 : V nd := f1
  have N := G.1 nd f1
  obtain ⟨p1, p2⟩ := w_lk_ph f3
  obtain ⟨k1, k2, k3⟩ := w_ks G (n := nd) f1
  have hc : c ∈ gK g nd := by
    rcases w_lk_cons f3 with z | ⟨_, z, j, z1, z2⟩
    · exact z.2
    · have := fo_lst (k := 3) N (by omega) (by rw [z]; rfl)
      rw [z2]; exact fo_getj (by omega)
  have hl : w_lk g 1 ((nd, ev, ph, cs), (gt, x0, x1, x2), (la, bv, bx, ty), dt, sc, sr, tg, pl) := by
    rcases w_lk_cons f3 with z | z
    · exact z.1
    · exact z.1
  obtain ⟨n1, n2, n3, n4, n5, n6, n7, _⟩ := N
  obtain ⟨v1, v2⟩ := n5 c hc
  have hZc := fo_sum_mem (Z := Z) hc
  obtain ⟨i1, i2⟩ := f9 (by show ph ≠ 7; omega)
  have i1 : 2 * m_yh r + 3 * Z nd + 1 + w_kY g Z (m_ch g r) + 170 * (5 - m_fc r) ≤ 1040 := i1
  have i2 : 2 * r.length + 4 * Z nd + w_kX g Z (m_ch g r) + 224 * (5 - m_fc r) ≤ 1400 := i2
  have ey : m_yh (((nd, ev, ph, cs), (gt, x0, x1, x2), (la, bv, bx, ty), dt, sc, sr, tg, pl) :: r) = m_yh r + 1 := m_yh_1 (by show ph ≠ 7; omega) (by show ph ≠ 4; omega)
  have ef : m_fc (((nd, ev, ph, cs), (gt, x0, x1, x2), (la, bv, bx, ty), dt, sc, sr, tg, pl) :: r) = m_fc r := w_fc_ne (by show ph ≠ 6; omega)
  refine ⟨v1, ⟨f1, f2, hl, f4, f5, f6, f7, f8, f9, f10⟩, ?_, p1, hc⟩
  unfold w_iq
  rw [ey, ef]
  by_cases c1 : ph = 1 ∧ (gO g nd = 16 ∨ gO g nd = 17)
  · have ec : m_ch g (((nd, ev, ph, cs), (gt, x0, x1, x2), (la, bv, bx, ty), dt, sc, sr, tg, pl) :: r) = (r.length, nd, ev) :: m_ch g r := by
      show (if ph = 7 then sc else if ph = 1 ∧ (gO g nd = 16 ∨ gO g nd = 17) then (r.length, nd, ev) :: m_ch g r else m_ch g r) = _
      rw [if_neg (by omega), if_pos c1]
    rw [ec]
    have hh := w_lk_hs f3 c1.1 (by omega) (by omega)
    have h2 := fo_sum_two (Z := Z) (k := gt) hh.1.symm
    refine ⟨?_, ?_⟩
    · show 2 * (m_yh r + 1) + 3 * Z c + 1 + ((if gO g nd = 16 then 3 * Z ((gK g nd).getD 0 0) + 1 else 0) + w_kY g Z (m_ch g r)) + 170 * (5 - m_fc r) ≤ 1040
      split <;> omega
    · show 2 * (r.length + 1) + 4 * Z c + ((if gO g nd = 16 then 4 * Z ((gK g nd).getD 0 0) + 2 else 0) + w_kX g Z (m_ch g r)) + 224 * (5 - m_fc r) ≤ 1400
      split <;> omega
  · have ec : m_ch g (((nd, ev, ph, cs), (gt, x0, x1, x2), (la, bv, bx, ty), dt, sc, sr, tg, pl) :: r) = m_ch g r := by
      show (if ph = 7 then sc else if ph = 1 ∧ (gO g nd = 16 ∨ gO g nd = 17) then (r.length, nd, ev) :: m_ch g r else m_ch g r) = _
      rw [if_neg (by omega), if_neg c1]
    rw [ec]
    refine ⟨by omega, ?_⟩
    show 2 * (r.length + 1) + 4 * Z c + w_kX g Z (m_ch g r) + 224 * (5 - m_fc r) ≤ 1400
    omega
theorem fo_nx_d {l : List Nat} {k c : Nat} {cs : List Nat} (h : l.drop k = c :: cs) : fo_nx l k = nI c := by
  have hk : k < l.length := by
    rcases Nat.lt_or_ge k l.length with z | z
    · exact z
    · rw [List.drop_eq_nil_of_le z] at h; cases h
  rw [List.drop_eq_getElem_cons hk] at h
  injection h with h1 h2
  unfold fo_nx
  rw [List.getElem?_eq_getElem hk, h1]
theorem fo_nx_g {l : List Nat} {k : Nat} (h : k < l.length) : fo_nx l k = nI (l.getD k 0) := by
  unfold fo_nx
  rw [List.getD_eq_getElem?_getD, List.getElem?_eq_getElem h]
  rfl
/-- the next part is begun -/
theorem y_nxt (G : g_w g V Z pa T) (Yt : yT g V h_count h_open h_types c_sort c_op c_na c_nb c_up c_val c_size c_params c_parent) {nd ev ph gt bv ty sr : Nat} {x0 x1 x2 la bx dt pl : Int32} {sc : List (Nat × Nat × Nat)} {tg : Option Nat} {c : Nat} {cs : List Nat} (F : w_f g V Z pa 0 ((nd, ev, ph, c :: cs), (gt, x0, x1, x2), (la, bv, bx, ty), dt, sc, sr, tg, pl) r) (W : w_l g V Z pa 1 r) (hs : w_s g s) (hg : yGl gv gh (sGl s)) (YA : yA g c_node c_got c_handle c_pTarget c_pPlace c_act c_mode c_bVar c_pType c_v0 c_v1 c_v2 c_last c_bVal c_pVal True (m_yh r) ((nd, ev, ph, c :: cs), (gt, x0, x1, x2), (la, bv, bx, ty), dt, sc, sr, tg, pl) r) (Yr : yL g c_node c_got c_handle c_pTarget c_pPlace c_act c_mode c_bVar c_pType c_v0 c_v1 c_v2 c_last c_bVal c_pVal r) (h : ∀ u', yQ g V h_count h_open h_types c_sort c_op c_na c_nb c_up c_val c_size c_params c_parent (m_pro g ((nd, ev, ph, c :: cs), (gt, x0, x1, x2), (la, bv, bx, ty), dt, sc, sr, tg, pl) r s) u' → P u') : wpY_evaluate P (yU g h_count h_open h_types c_sort c_op c_na c_nb c_up c_val c_size c_params c_parent (y_z0 oc) 1 (sBe s) s (m_yh r + 1) ret xt xv xy xp 0 0 gv gh c_node c_got c_handle c_pTarget c_pPlace c_act c_mode c_bVar c_pType c_v0 c_v1 c_v2 c_last c_bVal c_pVal) (nI c) (nI ev) := by
  obtain ⟨v1, v2, v3, v4, v5⟩ := w_prc G F
  have ey : m_yh (((nd, ev, ph, cs), (gt, x0, x1, x2), (la, bv, bx, ty), dt, sc, sr, tg, pl) :: r) = m_yh r + 1 := m_yh_1 (by show ph ≠ 7; omega) (by show ph ≠ 4; omega)
  rw [← ey]
  refine y_ev (l := ((nd, ev, ph, cs), (gt, x0, x1, x2), (la, bv, bx, ty), dt, sc, sr, tg, pl) :: r) G Yt v1 F.2.1 ⟨v2, W⟩ (fun q r' e => by injection e with e _; rw [← e]; exact ⟨by show ph ≠ 4; omega, by show ph ≠ 8; omega⟩) v3 hs.1 hg ⟨?_, Yr⟩ h
  exact (yF_A (f := ((nd, ev, ph, cs), (gt, x0, x1, x2), (la, bv, bx, ty), dt, sc, sr, tg, pl)) (by show ph ≠ 7; omega) (by show ph ≠ 4; omega) (by show ph ≠ 8; omega)).mpr YA
theorem y_endp (G : g_w g V Z pa T) {nd ev ph gt bv ty sr : Nat} {x0 x1 x2 la bx dt pl : Int32} {sc : List (Nat × Nat × Nat)} {tg : Option Nat} (F : w_f g V Z pa 0 ((nd, ev, ph, []), (gt, x0, x1, x2), (la, bv, bx, ty), dt, sc, sr, tg, pl) r) (hO : gO g nd = 15) (hph : ph = 2 ∨ ph = 3) (hg : yGl gv gh (sGl s)) (YA : yA g c_node c_got c_handle c_pTarget c_pPlace c_act c_mode c_bVar c_pType c_v0 c_v1 c_v2 c_last c_bVal c_pVal True (m_yh r) ((nd, ev, ph, []), (gt, x0, x1, x2), (la, bv, bx, ty), dt, sc, sr, tg, pl) r) (Yr : yL g c_node c_got c_handle c_pTarget c_pPlace c_act c_mode c_bVar c_pType c_v0 c_v1 c_v2 c_last c_bVal c_pVal r) (h : ∀ u', yQ g V h_count h_open h_types c_sort c_op c_na c_nb c_up c_val c_size c_params c_parent (m_pro g ((nd, ev, ph, []), (gt, x0, x1, x2), (la, bv, bx, ty), dt, sc, sr, tg, pl) r s) u' → P u') : wpY_endProtect P (yU g h_count h_open h_types c_sort c_op c_na c_nb c_up c_val c_size c_params c_parent (y_z0 oc) 1 (sBe s) s (m_yh r + 1) ret xt xv xy xp 0 0 gv gh c_node c_got c_handle c_pTarget c_pPlace c_act c_mode c_bVar c_pType c_v0 c_v1 c_v2 c_last c_bVal c_pVal) (nI (m_yh r)) := by
  have f1 : V nd := F.1
  have hk : m_yh r ≤ 518 := y_len (F.2.2.2.2.2.2.2.2.1 (by show ph ≠ 7; omega)) (G.1 nd f1).2.1
  have hgt : 0 < gt := by
    obtain ⟨_, _, f3, _⟩ := F
    rcases f3 with h | h | h | h | h | h | h | h | h | h
    · omega
    · omega
    · omega
    · omega
    · exact h.2.2.1
    all_goals omega
  obtain ⟨a1, a2, a3, a4, a5, a6, a7, a8, a9, a10, a11⟩ := YA
  refine ⟨vp_in_nI (by omega) (by decide), ?_⟩
  rw [nI_clamp (by omega), a4]
  rcases hph with rfl | rfl
  · refine br_t rfl ⟨vp_in_nI (by omega) (by decide), ?_⟩
    rw [a6 (Or.inr (Or.inl rfl)) hgt]
    refine y_done (m_yh r) ?_
    exact h _ (y_dlv hg Yr)
  · obtain ⟨b1, b2, b3⟩ := a11 rfl
    refine br_f (by decide) ?_
    refine ⟨vp_in_nI (by omega) (by decide), nm_e ?_⟩
    refine ⟨vp_in_nI (by omega) (by decide), nm_e ?_⟩
    refine ⟨vp_in_nI (by omega) (by decide), vp_in_nI (by omega) (by decide), ?_⟩
    rw [b1, b2]
    refine nm_r (nI_pred (m_yh r)) ?_
    exact h _ (Or.inl ⟨oc, sBe s, m_yh r, ret, y_tg tg r, dt, c_pType (m_yh r), c_pPlace (m_yh r), 0, 1, gv, gh, c_node, c_got, c_handle, c_pTarget, c_pPlace, c_act, c_mode, c_bVar, c_pType, c_v0, c_v1, c_v2, c_last, c_bVal, c_pVal, hg, fun _ => ⟨rfl, Yr⟩, fun z => (by cases z), fun z => (by cases z), fun z => (by cases z), fun _ => ⟨rfl, rfl, rfl, rfl, b3⟩, fun _ => rfl, rfl⟩)
end
end
section
/-! the reference's side: going on with a list, all kinds -/
section
variable {g : mG} {V : Nat → Prop} {Z : Nat → Nat} {pa : Nat → Option Nat} {T : Nat} {h_count h_open h_types : Int32} {c_sort c_op c_na c_nb c_up c_val c_size c_params c_parent : Nat → Int32} {s : St} {oc ret xt xv xy xp ha exi v : Int32} {be : Nat} {gv gh : Nat → Int32} {c_node c_got c_handle c_pTarget c_pPlace c_act c_mode c_bVar c_pType c_v0 c_v1 c_v2 c_last c_bVal c_pVal : Nat → Int32} {l r : List Fr} {f : Fr} {P : SY → Prop} {post : Int32 → SY → Prop} {N i p q : Nat}
/-- what the kind of a list in hand says of it -/
theorem w_kinds {nd ev ph gt bv ty sr : Nat} {rm : List Nat} {x0 x1 x2 la bx dt pl : Int32} {sc : List (Nat × Nat × Nat)} {tg : Option Nat} (F : w_lk g 0 ((nd, ev, ph, rm), (gt, x0, x1, x2), (la, bv, bx, ty), dt, sc, sr, tg, pl)) (hph : ph < 4) : gO g nd ≤ 26 ∧ (gO g nd = 6 → (ph = 0 ∧ gt = 0 ∧ rm = gK g nd) ∨ (ph = 1 ∧ gt = 1 ∧ ∃ j, (j = 1 ∨ j = 2) ∧ rm = [(gK g nd).getD j 0] ∧ (j = 2 → x0 = 0) ∧ (j = 1 → x0 ≠ 0)) ∨ (ph = 1 ∧ gt = 2 ∧ rm = [])) ∧ (16 ≤ gO g nd ∧ gO g nd ≤ 18 → ph = 1 ∧ rm = (gK g nd).drop (gt + 1) ∧ gt + 1 ≤ (gK g nd).length) ∧ (gO g nd ≠ 6 → ¬ (16 ≤ gO g nd ∧ gO g nd ≤ 18) → rm = (gK g nd).drop gt ∧ gt ≤ (gK g nd).length) ∧ (gO g nd = 7 ∨ gO g nd = 11 → ph = 1) ∧ (gO g nd = 9 ∨ gO g nd = 13 ∨ gO g nd = 10 → (ph = 0 ∧ gt = 0) ∨ (ph = 1 ∧ 1 ≤ gt)) ∧ (gO g nd = 15 → (ph = 0 ∧ gt = 0) ∨ ph = 2 ∨ ph = 3) ∧ (gO g nd ≠ 6 → gO g nd ≠ 7 → gO g nd ≠ 9 → gO g nd ≠ 10 → gO g nd ≠ 11 → gO g nd ≠ 13 → gO g nd ≠ 15 → ¬ (16 ≤ gO g nd ∧ gO g nd ≤ 18) → ph = 0) := by
  rcases F with h | h | h | h | h | h | h | h | h | h
  · obtain ⟨h1, h2, h3, h4, h5, h6, h7, h8⟩ := h
    refine ⟨h2, fun z => Or.inl ⟨h1, h8 (Or.inl z), ?_⟩, fun z => absurd z h5, fun _ _ => ⟨h6, h7⟩, fun z => by omega, fun z => Or.inl ⟨h1, h8 (by omega)⟩, fun z => Or.inl ⟨h1, h8 (by omega)⟩, fun _ _ _ _ _ _ _ _ => h1⟩
    have := h8 (Or.inl z)
    subst this
    exact h6
  · obtain ⟨h1, h2, h3⟩ := h
    refine ⟨by omega, fun _ => ?_, fun z => by omega, fun z => absurd h2 z, fun z => by omega, fun z => by omega, fun z => by omega, fun z => absurd h2 z⟩
    rcases h3 with ⟨z, _⟩ | ⟨_, z2, j, z3, z4, z5, z6⟩ | ⟨_, z2, z3⟩
    · cases z
    · refine Or.inr (Or.inl ⟨h1, z2, j, z3, z4, fun y => ?_, z6⟩)
      rw [if_pos y] at z5; exact z5
    · exact Or.inr (Or.inr ⟨h1, z2, z3⟩)
  · obtain ⟨h1, h2, h3, h6, h7⟩ := h
    exact ⟨by omega, fun z => by omega, fun _ => ⟨h1, h6, h7⟩, fun _ z => absurd ⟨h2, h3⟩ z, fun z => by omega, fun z => by omega, fun z => by omega, fun _ _ _ _ _ _ _ z => absurd ⟨h2, h3⟩ z⟩
  · obtain ⟨h1, h2, h6, h7, h8⟩ := h
    exact ⟨by omega, fun z => by omega, fun z => by omega, fun _ _ => ⟨h6, h7⟩, fun _ => h1, fun z => Or.inr ⟨h1, h8 (by omega)⟩, fun z => by omega, fun _ _ _ _ _ _ _ _ => by omega⟩
  · obtain ⟨h1, h2, h3, h6, h7⟩ := h
    exact ⟨by omega, fun z => by omega, fun z => by omega, fun _ _ => ⟨h6, h7⟩, fun z => by omega, fun z => by omega, fun _ => Or.inr h1, fun _ _ _ _ _ _ z _ => absurd h2 z⟩
  all_goals omega
theorem y_150 (G : g_w g V Z pa T) (Yt : yT g V h_count h_open h_types c_sort c_op c_na c_nb c_up c_val c_size c_params c_parent) {nd ev ph gt bv ty sr : Nat} {rm : List Nat} {x0 x1 x2 la bx dt pl : Int32} {sc : List (Nat × Nat × Nat)} {tg : Option Nat} (F : w_f g V Z pa 0 ((nd, ev, ph, rm), (gt, x0, x1, x2), (la, bv, bx, ty), dt, sc, sr, tg, pl) r) (W : w_l g V Z pa 1 r) (hph : ph < 4) (hfr : m_fc r ≤ gD g) (hs : w_s g s) (hpr : sPr s < 1000000) (hg : yGl gv gh (sGl s)) (YA : yA g c_node c_got c_handle c_pTarget c_pPlace c_act c_mode c_bVar c_pType c_v0 c_v1 c_v2 c_last c_bVal c_pVal (¬ (gO g nd = 9 ∧ gt = 1)) (m_yh r) ((nd, ev, ph, rm), (gt, x0, x1, x2), (la, bv, bx, ty), dt, sc, sr, tg, pl) r) (Yr : yL g c_node c_got c_handle c_pTarget c_pPlace c_act c_mode c_bVar c_pType c_v0 c_v1 c_v2 c_last c_bVal c_pVal r) (hx9 : gO g nd = 9 → gt = 1 → bv = gA g nd ∧ bx = x0 ∧ 8 ≤ bv ∧ bv < 12) (hw : gO g nd = 10 → ph = 1 ∧ (gt = 1 → c_last (m_yh r) ≠ 0)) (h : ∀ u', yQ g V h_count h_open h_types c_sort c_op c_na c_nb c_up c_val c_size c_params c_parent (m_pro g ((nd, ev, ph, rm), (gt, x0, x1, x2), (la, bv, bx, ty), dt, sc, sr, tg, pl) r s) u' → P u') : wY_advance_150 P (nI (m_yh r)) (nI nd) (nI (gO g nd)) (nI (gK g nd).length) (nI (gD g)) (nI (gF g)) h_count h_open h_types (nI (m_yh r + 1)) ret xt xv xy xp 0 0 1 ((y_z0 oc).1) ((y_z0 oc).2.1) ((y_z0 oc).2.2.1) ((y_z0 oc).2.2.2.1) ((y_z0 oc).2.2.2.2) (nI (sBe s)) (nI (sPr s)) c_sort c_op c_na c_nb c_up c_val c_size c_params c_parent gv (sCe s) (sLo s) gh c_node c_got c_handle c_pTarget c_pPlace c_act c_mode c_bVar c_pType c_v0 c_v1 c_v2 c_last c_bVal c_pVal (sOu s) := by
  have f1 : V nd := F.1
  have f2 : ev ≤ 5 := F.2.1
  have f4 := F.2.2.2.1
  obtain ⟨w1, w6, w16, wo, w7, w9, w15, wz⟩ := w_kinds F.2.2.1 hph
  have n2 := (G.1 nd f1).2.1
  have n4 := (G.1 nd f1).2.2.2.1
  have hKl := (w_ks G (n := nd) f1).2.1
  have h5 : m_yh r ≤ 518 := y_len (F.2.2.2.2.2.2.2.2.1 (by show ph ≠ 7; omega)) n2
  have hk : m_yh r < 520 := by omega
  have tma := (Yt.1 nd f1).2.2.2.1
  have a1 := YA.1
  have a2 := YA.2.1
  have a3 := YA.2.2.1
  have a6 := YA.2.2.2.2.2.1
  have a9 := YA.2.2.2.2.2.2.2.2.1
  have a10 := YA.2.2.2.2.2.2.2.2.2.1
  have full : gO g nd ≠ 9 ∨ gt ≠ 1 → yA g c_node c_got c_handle c_pTarget c_pPlace c_act c_mode c_bVar c_pType c_v0 c_v1 c_v2 c_last c_bVal c_pVal True (m_yh r) ((nd, ev, ph, rm), (gt, x0, x1, x2), (la, bv, bx, ty), dt, sc, sr, tg, pl) r := by
    intro z
    obtain ⟨b1, b2, b3, b4, b5, b6⟩ := YA
    exact ⟨b1, b2, b3, b4, fun _ => b5 (by omega), b6⟩
  have DLV : ∀ v, (∀ u', yQ g V h_count h_open h_types c_sort c_op c_na c_nb c_up c_val c_size c_params c_parent (m_dlv r v s) u' → P u') → P (yU g h_count h_open h_types c_sort c_op c_na c_nb c_up c_val c_size c_params c_parent (y_z0 oc) 1 (sBe s) s (m_yh r) v xt xv xy xp 1 0 gv gh c_node c_got c_handle c_pTarget c_pPlace c_act c_mode c_bVar c_pType c_v0 c_v1 c_v2 c_last c_bVal c_pVal) := fun v hh => hh _ (y_dlv hg Yr)
  have EV : ∀ {c cs}, gO g nd ≠ 9 ∨ gt ≠ 1 → rm = c :: cs → wpY_evaluate P (yU g h_count h_open h_types c_sort c_op c_na c_nb c_up c_val c_size c_params c_parent (y_z0 oc) 1 (sBe s) s (m_yh r + 1) ret xt xv xy xp 0 0 gv gh c_node c_got c_handle c_pTarget c_pPlace c_act c_mode c_bVar c_pType c_v0 c_v1 c_v2 c_last c_bVal c_pVal) (nI c) (nI ev) := by
    intro c cs z e
    subst e
    exact y_nxt G Yt F W hs hg (full z) Yr h
  refine xx_n hk ?_
  rw [a3]
  have hgt : gt ≤ 57 := by
    by_cases o6 : gO g nd = 6
    · rcases w6 o6 with z | z | z <;> omega
    · by_cases o16 : 16 ≤ gO g nd ∧ gO g nd ≤ 18
      · have := (w16 o16).2.2
        omega
      · have := (wo o6 o16).2
        omega
  refine fb_if (nI_eq (b := 6) (by omega) (by decide)) (fun o => ?_) (fun o => ?_)
  · have hl3 := fo_lst (k := 3) (G.1 nd f1) (by omega) (by rw [o]; rfl)
    rcases w6 o with ⟨z1, z2, z3⟩ | ⟨z1, z2, j, z3, z4, z5, z6⟩ | ⟨z1, z2, z3⟩
    · rw [z2]
      refine br_f (by decide) (br_t rfl ?_)
      refine Yt.2.2.1 nd f1 0 (by decide) _ _ _ _ _ _ _ _ _ _ _ _ _ _ _ _ _ _ _ _ _ _ _ _ _ _ _ _ _ _ _ _ _ _ _ _ _ _ _ ?_
      refine ⟨vp_in_nI hk (by decide), ?_⟩
      rw [nI_clamp (by omega), a2, fo_nx_g (by omega)]
      obtain ⟨c, cs, hc⟩ : ∃ c cs, gK g nd = c :: cs := by
        cases hK : gK g nd with
        | nil => rw [hK] at hl3; exact absurd hl3 (by decide)
        | cons c cs => exact ⟨c, cs, rfl⟩
      have e : (gK g nd).getD 0 0 = c := by rw [hc]; rfl
      rw [e]
      exact EV (Or.inl (by omega)) (z3.trans hc)
    · rw [z2]
      refine br_f (by decide) (br_f (by decide) ⟨vp_in_nI hk (by decide), ?_⟩)
      rw [nI_clamp (by omega), a6 (Or.inr (Or.inr ⟨z1, Or.inr (Or.inl o)⟩)) (by omega)]
      rcases z3 with rfl | rfl
      · refine br_f (z6 rfl) ?_
        refine Yt.2.2.1 nd f1 1 (by decide) _ _ _ _ _ _ _ _ _ _ _ _ _ _ _ _ _ _ _ _ _ _ _ _ _ _ _ _ _ _ _ _ _ _ _ _ _ _ _ ?_
        refine ⟨vp_in_nI hk (by decide), ?_⟩
        rw [nI_clamp (by omega), a2, fo_nx_g (by omega)]
        exact EV (Or.inl (by omega)) z4
      · refine br_t (z5 rfl) ?_
        refine Yt.2.2.1 nd f1 2 (by decide) _ _ _ _ _ _ _ _ _ _ _ _ _ _ _ _ _ _ _ _ _ _ _ _ _ _ _ _ _ _ _ _ _ _ _ _ _ _ _ ?_
        refine ⟨vp_in_nI hk (by decide), ?_⟩
        rw [nI_clamp (by omega), a2, fo_nx_g (by omega)]
        exact EV (Or.inl (by omega)) z4
    · rw [z2]
      refine br_t rfl ⟨vp_in_nI hk (by decide), ?_⟩
      rw [nI_clamp (by omega), a9 z1 (Or.inr (by omega))]
      refine y_done (m_yh r) ?_
      subst z1 z3
      have e0 : m_pro g ((nd, ev, 1, []), (gt, x0, x1, x2), (la, bv, bx, ty), dt, sc, sr, tg, pl) r s = m_dlv r la s := if_neg (by omega)
      exact DLV la (fun u' hu => h u' (by rw [e0]; exact hu))
  · refine fb_if (nI_eq (b := 10) (by omega) (by decide)) (fun o10 => ?_) (fun o10 => ?_)
    · obtain ⟨z1, z2⟩ := hw o10
      have z3 : 1 ≤ gt := by
        rcases w9 (by omega) with y | y <;> omega
      obtain ⟨z4, z5⟩ := wo o (by omega)
      have hb : bv = 0 := by
        rcases f4 with z | ⟨_, _, z⟩
        · exact z
        · rcases z with ⟨_, z⟩ | z | z
          · have z : gO g nd = 9 := z
            omega
          · have z : ph = 5 := z
            omega
          · have z : ph = 7 := z
            omega
      subst hb
      have rest : wY_loop_52 P (nI (m_yh r)) (nI nd) (nI gt) (nI (gK g nd).length) (nI (gD g)) (nI (gF g)) h_count h_open h_types (nI (m_yh r + 1)) ret xt xv xy xp 0 0 1 ((y_z0 oc).1) ((y_z0 oc).2.1) ((y_z0 oc).2.2.1) ((y_z0 oc).2.2.2.1) ((y_z0 oc).2.2.2.2) (nI (sBe s)) (nI (sPr s)) c_sort c_op c_na c_nb c_up c_val c_size c_params c_parent gv (sCe s) (sLo s) gh c_node c_got c_handle c_pTarget c_pPlace c_act c_mode c_bVar c_pType c_v0 c_v1 c_v2 c_last c_bVal c_pVal (sOu s) := by
        refine fb_if (nI_eq (by omega) (by omega)) (fun y => ?_) (fun y => ?_)
        · have hrm : rm = [] := by rw [z4, y]; exact List.drop_eq_nil_of_le (Nat.le_refl _)
          subst hrm z1
          refine yy_w 0 hk y_0s ?_
          have e0 : m_pro g ((nd, ev, 1, []), (gt, x0, x1, x2), (la, 0, bx, ty), dt, sc, sr, tg, pl) r s = (if sBe s < gF g then (0, 0, none, 0, 0, m_new g nd ev :: r, s_be s (sBe s + 1)) else (6, 0, none, 0, 0, ((nd, ev, 1, []), (gt, x0, x1, x2), (la, 0, bx, ty), dt, sc, sr, tg, pl) :: r, s)) := if_pos o10
          have em : m_new g nd ev = ((nd, ev, 0, gK g nd), (0, 0, 0, 0), (0, 0, 0, 0), 0, [], 0, none, 0) := by
            unfold m_new
            rw [if_neg (by omega), if_neg (by omega)]
          rw [em] at e0
          by_cases hbe : sBe s < gF g
          · rw [if_pos hbe] at e0
            refine h _ ?_
            rw [e0]
            refine Or.inl ⟨oc, sBe s, m_yh r + 1, ret, xt, xv, xy, xp, 0, 0, gv, gh, c_node, upd c_got (m_yh r) 0, c_handle, c_pTarget, c_pPlace, c_act, c_mode, c_bVar, c_pType, c_v0, c_v1, c_v2, c_last, c_bVal, c_pVal, hg, fun _ => ⟨rfl, ?_, yL_keep W Yr yE_r (yE_u yE_r (Nat.le_refl _)) yE_r yE_r yE_r yE_r yE_r yE_r yE_r yE_r yE_r yE_r yE_r yE_r yE_r⟩, fun _ => ⟨rfl, rfl, ?_⟩, fun z => (by cases z), fun z => (by cases z), fun z => (by cases z), fun z => absurd z (by show ¬ 1 ≤ 0; decide), rfl⟩
            · refine ⟨a1, a2, pk_us, YA.2.2.2.1, fun _ => ⟨(YA.2.2.2.2.1 (by omega)).1, fun z => absurd rfl z⟩, fun _ z => absurd z (by decide), fun _ z => absurd z (by decide), fun _ z => absurd z (by decide), fun z => (by cases z), fun z => (by cases z), fun z => (by cases z)⟩
            · show sBe s + (if gO g nd = 10 then 1 else 0) = sBe s + 1
              rw [if_pos o10]
          · rw [if_neg hbe] at e0
            refine h _ ?_
            rw [e0]
            exact Or.inr (Or.inr ⟨oc, ret, xt, xv, xy, xp, gv, gh, c_node, upd c_got (m_yh r) 0, c_handle, c_pTarget, c_pPlace, c_act, c_mode, c_bVar, c_pType, c_v0, c_v1, c_v2, c_last, c_bVal, c_pVal, s, _, m_yh r, nd, rfl, hg, hk, f1, o10, a1, pk_us, by omega, hs.1, rfl⟩)
        · refine Yt.2.2.1 nd f1 gt (by omega) _ _ _ _ _ _ _ _ _ _ _ _ _ _ _ _ _ _ _ _ _ _ _ _ _ _ _ _ _ _ _ _ _ _ _ _ _ _ _ ?_
          refine ⟨vp_in_nI hk (by decide), ?_⟩
          rw [nI_clamp (by omega), a2]
          cases hrm : rm with
          | nil =>
            rw [hrm] at z4
            have := congrArg List.length z4
            rw [List.length_drop] at this
            have : 0 = (gK g nd).length - gt := this
            omega
          | cons c cs =>
            rw [fo_nx_d (z4.symm.trans hrm)]
            exact EV (Or.inl (by omega)) hrm
      refine br_f (nI_ne0 (by omega) (by omega)) ?_
      refine fb_if (nI_eq (b := 1) (by omega) (by decide)) (fun y => ⟨vp_in_nI hk (by decide), ?_⟩) (fun y => rest)
      rw [nI_clamp (by omega)]
      exact br_f (z2 y) rest
    · have S335 : (gO g nd ≠ 6 → ¬ (16 ≤ gO g nd ∧ gO g nd ≤ 18) → ∀ {bVr bVl : Nat → Int32}, yA g c_node c_got c_handle c_pTarget c_pPlace c_act c_mode bVr c_pType c_v0 c_v1 c_v2 c_last bVl c_pVal True (m_yh r) ((nd, ev, ph, rm), (gt, x0, x1, x2), (la, bv, bx, ty), dt, sc, sr, tg, pl) r → yL g c_node c_got c_handle c_pTarget c_pPlace c_act c_mode bVr c_pType c_v0 c_v1 c_v2 c_last bVl c_pVal r → wY_advance_335 P (nI (m_yh r)) (nI nd) (nI (gO g nd)) (nI (gK g nd).length) (nI gt) (nI (gD g)) (nI (gF g)) h_count h_open h_types (nI (m_yh r + 1)) ret xt xv xy xp 0 0 1 ((y_z0 oc).1) ((y_z0 oc).2.1) ((y_z0 oc).2.2.1) ((y_z0 oc).2.2.2.1) ((y_z0 oc).2.2.2.2) (nI (sBe s)) (nI (sPr s)) c_sort c_op c_na c_nb c_up c_val c_size c_params c_parent gv (sCe s) (sLo s) gh c_node c_got c_handle c_pTarget c_pPlace c_act c_mode bVr c_pType c_v0 c_v1 c_v2 c_last bVl c_pVal (sOu s)) := by
        intro o o16 bVr bVl YB Yr'
        obtain ⟨z4, z5⟩ := wo o o16
        have hrm0 : gt = (gK g nd).length → rm = [] := by
          intro y
          rw [z4, y]; exact List.drop_eq_nil_of_le (Nat.le_refl _)
        have DLV' : ∀ v, (∀ u', yQ g V h_count h_open h_types c_sort c_op c_na c_nb c_up c_val c_size c_params c_parent (m_dlv r v s) u' → P u') → P (yU g h_count h_open h_types c_sort c_op c_na c_nb c_up c_val c_size c_params c_parent (y_z0 oc) 1 (sBe s) s (m_yh r) v xt xv xy xp 1 0 gv gh c_node c_got c_handle c_pTarget c_pPlace c_act c_mode bVr c_pType c_v0 c_v1 c_v2 c_last bVl c_pVal) := fun v hh => hh _ (y_dlv hg Yr')
        refine fb_if (nI_leI (by omega) (by omega)) (fun y => ?_) (fun y => ?_)
        · have hrm := hrm0 (by omega)
          subst hrm
          have D1 : ph = 1 → gO g nd ≠ 10 → ∀ v, v = la → P (yU g h_count h_open h_types c_sort c_op c_na c_nb c_up c_val c_size c_params c_parent (y_z0 oc) 1 (sBe s) s (m_yh r) v xt xv xy xp 1 0 gv gh c_node c_got c_handle c_pTarget c_pPlace c_act c_mode bVr c_pType c_v0 c_v1 c_v2 c_last bVl c_pVal) := by
            intro z1 z2 v hv
            subst z1
            rw [hv]
            have e0 : m_pro g ((nd, ev, 1, []), (gt, x0, x1, x2), (la, bv, bx, ty), dt, sc, sr, tg, pl) r s = m_dlv r la s := if_neg z2
            exact DLV' la (fun u' hu => h u' (by rw [e0]; exact hu))
          refine fb_if (nI_eq (b := 7) (by omega) (by decide)) (fun o7 => ?_) (fun o7 => ?_)
          · refine ⟨vp_in_nI hk (by decide), ?_⟩
            rw [nI_clamp (by omega)]
            exact y_done (m_yh r) (D1 (w7 (Or.inl o7)) o10 _ (a9 (w7 (Or.inl o7)) (Or.inl (Or.inl o7))))
          refine fb_if (nI_eq (b := 11) (by omega) (by decide)) (fun o11 => ?_) (fun o11 => ?_)
          · refine ⟨vp_in_nI hk (by decide), ?_⟩
            rw [nI_clamp (by omega)]
            exact y_done (m_yh r) (D1 (w7 (Or.inr o11)) o10 _ (a9 (w7 (Or.inr o11)) (Or.inl (Or.inr (Or.inl o11)))))
          have S399 : (gO g nd = 9 ∨ gO g nd = 13) → wY_advance_399 P (nI (m_yh r)) (nI (gK g nd).length) (nI (gD g)) (nI (gF g)) h_count h_open h_types (nI (m_yh r + 1)) ret xt xv xy xp 0 0 1 ((y_z0 oc).1) ((y_z0 oc).2.1) ((y_z0 oc).2.2.1) ((y_z0 oc).2.2.2.1) ((y_z0 oc).2.2.2.2) (nI (sBe s)) (nI (sPr s)) c_sort c_op c_na c_nb c_up c_val c_size c_params c_parent gv (sCe s) (sLo s) gh c_node c_got c_handle c_pTarget c_pPlace c_act c_mode bVr c_pType c_v0 c_v1 c_v2 c_last bVl c_pVal (sOu s) := by
            intro o9
            have hl1 := fo_lst (k := 1) (G.1 nd f1) (by omega) (by rcases o9 with z | z <;> rw [z] <;> rfl)
            have hp1 : ph = 1 ∧ 1 ≤ gt := by
              rcases w9 (by omega) with z | z <;> omega
            refine fb_if (nI_eq (b := 1) (by omega) (by decide)) (fun z => ?_) (fun z => ⟨vp_in_nI hk (by decide), ?_⟩)
            · exact y_done (m_yh r) (D1 hp1.1 o10 _ (a10 hp1.1 o9 (by omega)).symm)
            · rw [nI_clamp (by omega)]
              exact y_done (m_yh r) (D1 hp1.1 o10 _ (a9 hp1.1 (Or.inr (by omega))))
          refine fb_if (nI_eq (b := 9) (by omega) (by decide)) (fun o9 => S399 (Or.inl o9)) (fun o9 => ?_)
          refine fb_if (nI_eq (b := 13) (by omega) (by decide)) (fun o13 => S399 (Or.inr o13)) (fun o13 => ?_)
          refine fb_if (nI_eq (b := 15) (by omega) (by decide)) (fun o15 => ?_) (fun o15 => ?_)
          · have hl1 := fo_lst (k := 1) (G.1 nd f1) (by omega) (by rw [o15]; rfl)
            have hp : ph = 2 ∨ ph = 3 := by
              rcases w15 o15 with z | z
              · omega
              · exact z
            exact y_endp G F o15 hp hg YB Yr' h
          · have hp0 := wz o o7 o9 o10 o11 o13 o15 o16
            subst hp0
            exact y_app G Yt F W hfr hs hpr hg YB Yr' h
        · refine Yt.2.2.1 nd f1 gt (by omega) _ _ _ _ _ _ _ _ _ _ _ _ _ _ _ _ _ _ _ _ _ _ _ _ _ _ _ _ _ _ _ _ _ _ _ _ _ _ _ ?_
          refine ⟨vp_in_nI hk (by decide), ?_⟩
          rw [nI_clamp (by omega), a2]
          cases hrm : rm with
          | nil =>
            rw [hrm] at z4
            have := congrArg List.length z4
            rw [List.length_drop] at this
            have : 0 = (gK g nd).length - gt := this
            omega
          | cons c cs =>
            rw [fo_nx_d (z4.symm.trans hrm)]
            subst hrm
            exact y_nxt G Yt F W hs hg YB Yr' h
      have S299 : ¬ (16 ≤ gO g nd ∧ gO g nd ≤ 18) → wY_advance_299 P (nI (m_yh r)) (nI nd) (nI (gO g nd)) (nI (gK g nd).length) (nI gt) (nI (gD g)) (nI (gF g)) h_count h_open h_types (nI (m_yh r + 1)) ret xt xv xy xp 0 0 1 ((y_z0 oc).1) ((y_z0 oc).2.1) ((y_z0 oc).2.2.1) ((y_z0 oc).2.2.2.1) ((y_z0 oc).2.2.2.2) (nI (sBe s)) (nI (sPr s)) c_sort c_op c_na c_nb c_up c_val c_size c_params c_parent gv (sCe s) (sLo s) gh c_node c_got c_handle c_pTarget c_pPlace c_act c_mode c_bVar c_pType c_v0 c_v1 c_v2 c_last c_bVal c_pVal (sOu s) := by
        intro o16
        refine fb_if (nI_eq (b := 9) (by omega) (by decide)) (fun o9 => ?_) (fun o9 => ?_)
        · refine fb_if (nI_eq (b := 1) (by omega) (by decide)) (fun g1 => ?_) (fun g1 => ?_)
          · obtain ⟨x1', x2', x3', x4'⟩ := hx9 o9 g1
            refine ⟨vp_in_nI n4 (by decide), ?_⟩
            rw [nI_clamp (n := nd) (by omega), tma (by unfold fo_ma; omega)]
            refine yy_w (nI (gA g nd)) hk (fb_byte' (by omega)) ?_
            refine ⟨vp_in_nI hk (by decide), ?_⟩
            have hp1 : ph = 1 := by
              rcases w9 (by omega) with z | z <;> omega
            rw [nI_clamp (n := m_yh r) (by omega), a6 (Or.inr (Or.inr ⟨hp1, Or.inr (Or.inr o9)⟩)) (by omega)]
            refine ⟨vp_in_nI hk (by decide), nm_e ?_⟩
            refine S335 o o16 ?_ (yL_keep W Yr yE_r yE_r yE_r yE_r yE_r yE_r yE_r (yE_u yE_r (Nat.le_refl _)) yE_r yE_r yE_r yE_r yE_r (yE_u yE_r (Nat.le_refl _)) yE_r)
            obtain ⟨b1, b2, b3, b4, b5, b6⟩ := YA
            refine ⟨b1, b2, b3, b4, fun _ => ⟨?_, fun _ => ?_⟩, b6⟩
            · rw [pk_us]
              unfold y_bv
              rw [if_neg (by omega), x1']
            · rw [pk_us, x2']
          · exact S335 o o16 (full (Or.inr g1)) Yr
        · exact S335 o o16 (full (Or.inl o9)) Yr
      refine fb_if (nI_ltI (b := 16) (by omega) (by decide)) (fun z => S299 (by omega)) (fun z => ?_)
      refine fb_if (nI_ltI (a := 18) (by decide) (by omega)) (fun z2 => S299 (by omega)) (fun z2 => ?_)
      obtain ⟨b1, b2, b3⟩ := w16 (by omega)
      obtain ⟨kk, hkk⟩ : ∃ kk, (gK g nd).length = kk + 1 := ⟨(gK g nd).length - 1, by omega⟩
      rw [hkk, nI_pred]
      refine fb_if (nI_eq (by omega) (by omega)) (fun y => ?_) (fun y => ?_)
      · refine ⟨vp_in_nI hk (by decide), ?_⟩
        rw [nI_clamp (by omega), a9 b1 (Or.inl (Or.inr (Or.inr (by omega))))]
        refine y_done (m_yh r) ?_
        have hrm : rm = [] := by rw [b2]; exact List.drop_eq_nil_of_le (by omega)
        subst b1 hrm
        have e0 : m_pro g ((nd, ev, 1, []), (gt, x0, x1, x2), (la, bv, bx, ty), dt, sc, sr, tg, pl) r s = m_dlv r la s := if_neg (by omega)
        exact DLV la (fun u' hu => h u' (by rw [e0]; exact hu))
      · rw [nI_1]
        refine Yt.2.2.1 nd f1 (gt + 1) (by omega) _ _ _ _ _ _ _ _ _ _ _ _ _ _ _ _ _ _ _ _ _ _ _ _ _ _ _ _ _ _ _ _ _ _ _ _ _ _ _ ?_
        refine ⟨vp_in_nI hk (by decide), ?_⟩
        rw [nI_clamp (by omega), a2]
        cases hrm : rm with
        | nil =>
          rw [hrm] at b2
          have := congrArg List.length b2
          rw [List.length_drop] at this
          have : 0 = (gK g nd).length - (gt + 1) := this
          omega
        | cons c cs =>
          rw [fo_nx_d (b2.symm.trans hrm)]
          exact EV (Or.inl (by omega)) hrm
end
end
section
/-! the reference's side: the step of a list on top -/
section
variable {g : mG} {V : Nat → Prop} {Z : Nat → Nat} {pa : Nat → Option Nat} {T : Nat} {h_count h_open h_types : Int32} {c_sort c_op c_na c_nb c_up c_val c_size c_params c_parent : Nat → Int32} {s : St} {oc ret xt xv xy xp ha exi v : Int32} {be : Nat} {gv gh : Nat → Int32} {c_node c_got c_handle c_pTarget c_pPlace c_act c_mode c_bVar c_pType c_v0 c_v1 c_v2 c_last c_bVal c_pVal : Nat → Int32} {l r : List Fr} {f : Fr} {P : SY → Prop} {post : Int32 → SY → Prop} {N i p q : Nat}
/-- a list goes on, no value having come -/
theorem y_adv0 (G : g_w g V Z pa T) (Yt : yT g V h_count h_open h_types c_sort c_op c_na c_nb c_up c_val c_size c_params c_parent) {nd ev ph gt bv ty sr : Nat} {rm : List Nat} {x0 x1 x2 la bx dt pl : Int32} {sc : List (Nat × Nat × Nat)} {tg : Option Nat} (F : w_f g V Z pa 0 ((nd, ev, ph, rm), (gt, x0, x1, x2), (la, bv, bx, ty), dt, sc, sr, tg, pl) r) (W : w_l g V Z pa 1 r) (hph : ph = 0 ∨ ph = 1 ∨ ph = 3) (hfw : gO g nd = 10 → ph = 0 ∧ gt = 0 ∧ 1 ≤ sBe s) (hfr : m_fc r ≤ gD g) (hs : w_s g s) (hpr : sPr s < 1000000) (hg : yGl gv gh (sGl s)) (Y : yL g c_node c_got c_handle c_pTarget c_pPlace c_act c_mode c_bVar c_pType c_v0 c_v1 c_v2 c_last c_bVal c_pVal (((nd, ev, ph, rm), (gt, x0, x1, x2), (la, bv, bx, ty), dt, sc, sr, tg, pl) :: r)) (hbe : be + (if gO g nd = 10 then 1 else 0) = sBe s) (h9 : gO g nd = 9 → gt ≠ 1) (h : ∀ u', yQ g V h_count h_open h_types c_sort c_op c_na c_nb c_up c_val c_size c_params c_parent (m_pro g ((nd, ev, ph, rm), (gt, x0, x1, x2), (la, bv, bx, ty), dt, sc, sr, tg, pl) r s) u' → P u') : wpY_step P (yU g h_count h_open h_types c_sort c_op c_na c_nb c_up c_val c_size c_params c_parent (y_z0 oc) 1 be s (m_yh r + 1) ret xt xv xy xp 0 0 gv gh c_node c_got c_handle c_pTarget c_pPlace c_act c_mode c_bVar c_pType c_v0 c_v1 c_v2 c_last c_bVal c_pVal) := by
  have f1 : V nd := F.1
  have n4 := (G.1 nd f1).2.2.2.1
  have hlk := F.2.2.1
  have hO : gO g nd ≤ 26 := w_lsO hlk (by show ph ≠ 8; omega)
  have hop := ((Yt.1 nd f1).2.2.1 hO).2
  have h5 : m_yh r ≤ 518 := y_len (F.2.2.2.2.2.2.2.2.1 (by show ph ≠ 7; omega)) (G.1 nd f1).2.1
  have hk : m_yh r < 520 := by omega
  have YA := (yF_A (f := ((nd, ev, ph, rm), (gt, x0, x1, x2), (la, bv, bx, ty), dt, sc, sr, tg, pl)) (by show ph ≠ 7; omega) (by show ph ≠ 4; omega) (by show ph ≠ 8; omega)).mp Y.1
  have Yr := Y.2
  have a1 := YA.1
  refine br_t rfl ?_
  refine br_f (xx_ne (a := m_yh r + 1) (b := 0) (by omega) (by omega) (by decide)) ?_
  rw [show (nI (m_yh r + 1) - 1 : Int32) = nI (m_yh r) from nI_pred _]
  refine ⟨vp_in_nI hk (by decide), ?_⟩
  rw [nI_clamp (by omega), a1]
  refine br_t (nI_pos' (by omega)) ?_
  unfold wpY_advance
  dsimp only
  refine ⟨vp_in_nI hk (by decide), ?_⟩
  rw [nI_clamp (by omega), a1]
  refine nm_e ?_
  refine xx_n n4 ?_
  rw [hop]
  refine Yt.2.1 nd f1 _ _ _ _ _ _ _ _ _ _ _ _ _ _ _ _ _ _ _ _ _ _ _ _ _ _ _ _ _ _ _ _ _ _ _ _ _ _ _ ?_
  refine br_t rfl ?_
  by_cases o10 : gO g nd = 10
  · obtain ⟨z1, z2, z3⟩ := hfw o10
    rw [if_pos o10] at hbe
    subst z1 z2
    have hl1 := fo_lst (k := 1) (G.1 nd f1) hO (by rw [o10]; rfl)
    have hF : gF g ≤ 200 := G.2.2.2.2.2.2.1
    refine xx_n hk ?_
    rw [YA.2.2.1, o10]
    refine br_f (by decide) (br_t rfl ?_)
    refine br_t rfl ?_
    refine y_beat (by have := hs.1; omega) hF (fun z => ?_) (fun z => by have := hs.1; omega)
    refine br_f (by decide) ?_
    rw [hbe]
    refine Yt.2.2.1 nd f1 0 (by decide) _ _ _ _ _ _ _ _ _ _ _ _ _ _ _ _ _ _ _ _ _ _ _ _ _ _ _ _ _ _ _ _ _ _ _ _ _ _ _ ?_
    refine ⟨vp_in_nI hk (by decide), ?_⟩
    rw [nI_clamp (by omega), YA.2.1]
    have hrm : rm = gK g nd := by
      rcases hlk with h | h | h | h | h | h | h | h | h | h
      · exact h.2.2.2.2.2.1
      all_goals omega
    cases hK : gK g nd with
    | nil => rw [hK] at hl1; exact absurd hl1 (by decide)
    | cons c cs =>
      subst hrm
      rw [hK] at F YA h
      exact y_nxt G Yt F W hs hg YA Yr h
  · rw [if_neg o10] at hbe
    have hbe : be = sBe s := hbe
    subst hbe
    refine y_150 G Yt F W (by omega) hfr hs hpr hg ?_ Yr (fun z1 z2 => absurd z2 (h9 z1)) (fun z => absurd z o10) h
    obtain ⟨b1, b2, b3, b4, b5, b6⟩ := YA
    exact ⟨b1, b2, b3, b4, fun _ => b5 trivial, b6⟩
/-- the arrays of a list to which a value came -/
def y_t (a : Nat → Int32) (k gt j : Nat) (v : Int32) : Nat → Int32 := if gt = j then upd a k v else a
theorem y_t_k {a : Nat → Int32} {k gt j : Nat} {v : Int32} : y_t a k gt j v k = if gt = j then v else a k := by
  unfold y_t
  split
  · exact pk_us
  · rfl
theorem y_t_e {a : Nat → Int32} {k gt j : Nat} {v : Int32} : yE k (y_t a k gt j v) a := by
  unfold y_t
  split
  · exact yE_u yE_r (Nat.le_refl _)
  · exact yE_r
/-- a list goes on with the value that came -/
theorem y_advh (G : g_w g V Z pa T) (Yt : yT g V h_count h_open h_types c_sort c_op c_na c_nb c_up c_val c_size c_params c_parent) {nd ev ph gt bv ty sr : Nat} {rm : List Nat} {x0 x1 x2 la bx dt pl : Int32} {sc : List (Nat × Nat × Nat)} {tg : Option Nat} (F : w_f g V Z pa 1 ((nd, ev, ph, rm), (gt, x0, x1, x2), (la, bv, bx, ty), dt, sc, sr, tg, pl) r) (W : w_l g V Z pa 1 r) (h4 : ph ≠ 4) (h7 : ph ≠ 7) (h8 : ph ≠ 8) (hfr : m_fc r ≤ gD g) (hs : w_s g s) (hpr : sPr s < 1000000) (hg : yGl gv gh (sGl s)) (Y : yL g c_node c_got c_handle c_pTarget c_pPlace c_act c_mode c_bVar c_pType c_v0 c_v1 c_v2 c_last c_bVal c_pVal (((nd, ev, ph, rm), (gt, x0, x1, x2), (la, bv, bx, ty), dt, sc, sr, tg, pl) :: r)) (h : ∀ u', yQ g V h_count h_open h_types c_sort c_op c_na c_nb c_up c_val c_size c_params c_parent (m_step g (1, v, none, 0, 0, ((nd, ev, ph, rm), (gt, x0, x1, x2), (la, bv, bx, ty), dt, sc, sr, tg, pl) :: r, s)) u' → P u') : wpY_step P (yU g h_count h_open h_types c_sort c_op c_na c_nb c_up c_val c_size c_params c_parent (y_z0 oc) 1 (sBe s) s (m_yh r + 1) v xt xv xy xp 1 0 gv gh c_node c_got c_handle c_pTarget c_pPlace c_act c_mode c_bVar c_pType c_v0 c_v1 c_v2 c_last c_bVal c_pVal) := by
  have f1 : V nd := F.1
  have n4 := (G.1 nd f1).2.2.2.1
  have hlk := F.2.2.1
  have hO : gO g nd ≤ 26 := w_lsO hlk h8
  have hop := ((Yt.1 nd f1).2.2.1 hO).2
  have h5 : m_yh r ≤ 518 := y_len (F.2.2.2.2.2.2.2.2.1 h7) (G.1 nd f1).2.1
  have hk : m_yh r < 520 := by omega
  have hph : ph < 9 := by
    rcases hlk with h | h | h | h | h | h | h | h | h | h <;> omega
  have hgt : gt ≤ 56 := by
    have hKl := (w_ks G (n := nd) f1).2.1
    rcases hlk with h | h | h | h | h | h | h | h | h | h
    · have := h.2.2.2.2.2.2.1
      omega
    · obtain ⟨_, _, z⟩ := h
      rcases z with z | z | z <;> omega
    · have := h.2.2.2.2
      omega
    · have := h.2.2.2.1
      omega
    · have := h.2.2.2.2
      omega
    · omega
    · omega
    · exact h.2.2.2 rfl
    · omega
    · omega
  have YA := (yF_A (f := ((nd, ev, ph, rm), (gt, x0, x1, x2), (la, bv, bx, ty), dt, sc, sr, tg, pl)) h7 h4 h8).mp Y.1
  have Yr := Y.2
  have a1 := YA.1
  have a3 := YA.2.2.1
  have a4 := YA.2.2.2.1
  have hst : m_step g (1, v, none, 0, 0, ((nd, ev, ph, rm), (gt, x0, x1, x2), (la, bv, bx, ty), dt, sc, sr, tg, pl) :: r, s) = (if ph = 4 ∨ ph = 8 then (2, 0, none, 0, 0, ((nd, ev, ph, rm), (gt, x0, x1, x2), (la, bv, bx, ty), dt, sc, sr, tg, pl) :: r, s)
    else if ph = 0 ∧ gO g nd = 10 ∧ v = 0 then m_dlv r 0 s
    else m_pro g (m_take g ((nd, ev, ph, rm), (gt, x0, x1, x2), (la, bv, bx, ty), dt, sc, sr, tg, pl) v) r s) := rfl
  rw [hst, if_neg (by omega)] at h
  refine br_t rfl ?_
  refine br_f (xx_ne (a := m_yh r + 1) (b := 0) (by omega) (by omega) (by decide)) ?_
  rw [show (nI (m_yh r + 1) - 1 : Int32) = nI (m_yh r) from nI_pred _]
  refine ⟨vp_in_nI hk (by decide), ?_⟩
  rw [nI_clamp (by omega), a1]
  refine br_t (nI_pos' (by omega)) ?_
  unfold wpY_advance
  dsimp only
  refine ⟨vp_in_nI hk (by decide), ?_⟩
  rw [nI_clamp (by omega), a1]
  refine nm_e ?_
  refine xx_n n4 ?_
  rw [hop]
  refine Yt.2.1 nd f1 _ _ _ _ _ _ _ _ _ _ _ _ _ _ _ _ _ _ _ _ _ _ _ _ _ _ _ _ _ _ _ _ _ _ _ _ _ _ _ ?_
  refine br_f (show ¬ (1 : Int32) = 0 by decide) ?_
  refine ⟨vp_in_nI hk (by decide), nm_e ?_⟩
  have TAIL : wY_advance_102 P (nI (m_yh r)) (nI nd) (nI (gO g nd)) (nI (gK g nd).length) (nI (gD g)) (nI (gF g)) h_count h_open h_types (nI (m_yh r + 1)) v xt xv xy xp 0 0 1 ((y_z0 oc).1) ((y_z0 oc).2.1) ((y_z0 oc).2.2.1) ((y_z0 oc).2.2.2.1) ((y_z0 oc).2.2.2.2) (nI (sBe s)) (nI (sPr s)) c_sort c_op c_na c_nb c_up c_val c_size c_params c_parent gv (sCe s) (sLo s) gh c_node c_got c_handle c_pTarget c_pPlace c_act c_mode c_bVar c_pType (y_t c_v0 (m_yh r) gt 0 v) (y_t c_v1 (m_yh r) gt 1 v) (y_t c_v2 (m_yh r) gt 2 v) (upd c_last (m_yh r) v) c_bVal c_pVal (sOu s) := by
    refine ⟨vp_in_nI hk (by decide), ?_⟩
    rw [nI_clamp (n := m_yh r) (by omega), a3, nI_1]
    refine ⟨vp_in_nI hk (by decide), nm_r (congrArg (upd c_got (m_yh r)) (fb_short (by omega))) ?_⟩
    refine ⟨vp_in_nI hk (by decide), ?_⟩
    rw [a4]
    have YrT : yL g c_node (upd c_got (m_yh r) (nI (gt + 1))) c_handle c_pTarget c_pPlace c_act c_mode c_bVar c_pType (y_t c_v0 (m_yh r) gt 0 v) (y_t c_v1 (m_yh r) gt 1 v) (y_t c_v2 (m_yh r) gt 2 v) (upd c_last (m_yh r) v) c_bVal c_pVal r := yL_keep W Yr yE_r (yE_u yE_r (Nat.le_refl _)) yE_r yE_r yE_r yE_r yE_r yE_r yE_r y_t_e y_t_e y_t_e (yE_u yE_r (Nat.le_refl _)) yE_r yE_r
    obtain ⟨d1, d2, d3, d4, d5⟩ := w_take (v := v) G F h4 h8
    have DN : m_pro g (m_take g ((nd, ev, ph, rm), (gt, x0, x1, x2), (la, bv, bx, ty), dt, sc, sr, tg, pl) v) r s = m_dlv r v s → ph ≠ 0 → wY_advance_141 P (nI (gD g)) (nI (gF g)) h_count h_open h_types (nI (m_yh r + 1)) v xt xv xy xp 0 0 1 ((y_z0 oc).1) ((y_z0 oc).2.1) ((y_z0 oc).2.2.1) ((y_z0 oc).2.2.2.1) ((y_z0 oc).2.2.2.2) (nI (sBe s)) (nI (sPr s)) c_sort c_op c_na c_nb c_up c_val c_size c_params c_parent gv (sCe s) (sLo s) gh c_node (upd c_got (m_yh r) (nI (gt + 1))) c_handle c_pTarget c_pPlace c_act c_mode c_bVar c_pType (y_t c_v0 (m_yh r) gt 0 v) (y_t c_v1 (m_yh r) gt 1 v) (y_t c_v2 (m_yh r) gt 2 v) (upd c_last (m_yh r) v) c_bVal c_pVal (sOu s) := by
      intro e z0
      rw [if_neg (fun z => z0 z.1), e] at h
      exact y_done (m_yh r) (h _ (y_dlv hg YrT))
    by_cases p0 : ph = 0
    · subst p0
      rw [if_neg (by omega)]
      refine br_f (by decide) ?_
      have hb : bv = 0 := by
        rcases F.2.2.2.1 with z | ⟨_, _, z⟩
        · exact z
        · rcases z with ⟨z, _⟩ | z | z <;> cases z
      subst hb
      have f3 : (gO g nd ≤ 26 ∧ gO g nd ≠ 7 ∧ gO g nd ≠ 11 ∧ ¬ (16 ≤ gO g nd ∧ gO g nd ≤ 18) ∧ rm = (gK g nd).drop (gt + 1) ∧ gt + 1 ≤ (gK g nd).length ∧ (gO g nd = 6 ∨ gO g nd = 9 ∨ gO g nd = 10 ∨ gO g nd = 13 ∨ gO g nd = 15 → gt = 0)) := by
        rcases hlk with h | h | h | h | h | h | h | h | h | h
        · exact h.2
        all_goals omega
      obtain ⟨_, _, _, _, _, k6, k7⟩ := f3
      have e : m_take g ((nd, ev, 0, rm), (gt, x0, x1, x2), (la, 0, bx, ty), dt, sc, sr, tg, pl) v = (if gO g nd = 6 then ((nd, ev, 1, [(gK g nd).getD (if v = 0 then 2 else 1) 0]), (gt + 1, v, x1, x2), (0, 0, bx, ty), dt, sc, sr, tg, pl)
        else if gO g nd = 10 then ((nd, ev, 1, rm), (gt + 1, x0, x1, x2), (0, 0, bx, ty), dt, sc, sr, tg, pl)
        else if gO g nd = 9 then ((nd, ev, 1, rm), (gt + 1, v, x1, x2), (0, gA g nd, v, ty), dt, sc, sr, tg, pl)
        else if gO g nd = 13 then ((nd, ev, 1, rm), (gt + 1, v, x1, x2), (0, 0, bx, ty), dt, sc, sr, tg, pl)
        else if gO g nd = 15 then ((nd, ev, 2, rm), (gt + 1, v, x1, x2), (la, 0, bx, ty), dt, sc, sr, tg, pl)
        else ((nd, ev, 0, rm), (gt + 1, (if gt = 0 then v else x0), (if gt = 1 then v else x1), (if gt = 2 then v else x2)), (la, 0, bx, ty), dt, sc, sr, tg, pl)) := rfl
      by_cases ow : gO g nd = 10 ∧ v = 0
      · rw [if_pos ⟨rfl, ow.1, ow.2⟩] at h
        have hg0 := k7 (by omega)
        subst hg0
        refine xx_n hk ?_
        rw [pk_us, ow.1]
        refine br_f (by decide) (br_t rfl ?_)
        refine br_f (by decide) (br_t rfl ⟨vp_in_nI hk (by decide), ?_⟩)
        rw [nI_clamp (by omega), pk_us]
        refine br_t ow.2 ?_
        exact y_done (m_yh r) (h _ (y_dlv hg YrT))
      · rw [if_neg (fun z => ow z.2)] at h
        rw [e] at h d1
        obtain ⟨b1, b2, b3, b4, b5, b6, b7, b8, b9, b10, b11⟩ := YA
        have bb := b5 trivial
        by_cases o6 : gO g nd = 6
        · rw [if_pos o6] at h d1
          have hg0 := k7 (by omega)
          subst hg0
          refine y_150 G Yt d1 W (by decide) hfr hs hpr hg ⟨b1, b2, pk_us, b4, fun _ => bb, fun _ _ => ?_, fun z => (by cases z), fun z => (by cases z), fun _ z => ?_, fun _ z => by omega, fun z => (by cases z)⟩ YrT (fun z => by omega) (fun z => by omega) h
          · rw [y_t_k, if_pos rfl]
          · omega
        · rw [if_neg o6] at h d1
          by_cases o10 : gO g nd = 10
          · rw [if_pos o10] at h d1
            have hg0 := k7 (by omega)
            subst hg0
            refine y_150 G Yt d1 W (by decide) hfr hs hpr hg ⟨b1, b2, pk_us, b4, fun _ => bb, fun z => by omega, fun z => (by cases z), fun z => (by cases z), fun _ z => ?_, fun _ z => by omega, fun z => (by cases z)⟩ YrT (fun z => by omega) (fun _ => ⟨rfl, fun _ => ?_⟩) h
            · omega
            · rw [pk_us]
              exact fun z => ow ⟨o10, z⟩
          · rw [if_neg o10] at h d1
            by_cases o9 : gO g nd = 9
            · rw [if_pos o9] at h d1
              have hg0 := k7 (by omega)
              subst hg0
              have ha := ((G.1 nd f1).2.2.2.2.2.2.2.2.1 hO).2.1 (Or.inl o9)
              refine y_150 G Yt d1 W (by decide) hfr hs hpr hg ⟨b1, b2, pk_us, b4, fun z => absurd ⟨o9, rfl⟩ z, fun _ _ => ?_, fun z => (by cases z), fun z => (by cases z), fun _ z => ?_, fun _ _ _ => rfl, fun z => (by cases z)⟩ YrT (fun _ _ => ⟨rfl, rfl, ha.1, ha.2⟩) (fun z => by omega) h
              · rw [y_t_k, if_pos rfl]
              · omega
            · rw [if_neg o9] at h d1
              by_cases o13 : gO g nd = 13
              · rw [if_pos o13] at h d1
                have hg0 := k7 (by omega)
                subst hg0
                refine y_150 G Yt d1 W (by decide) hfr hs hpr hg ⟨b1, b2, pk_us, b4, fun _ => bb, fun _ _ => ?_, fun z => (by cases z), fun z => (by cases z), fun _ z => ?_, fun _ _ _ => rfl, fun z => (by cases z)⟩ YrT (fun z => by omega) (fun z => by omega) h
                · rw [y_t_k, if_pos rfl]
                · omega
              · rw [if_neg o13] at h d1
                by_cases o15 : gO g nd = 15
                · rw [if_pos o15] at h d1
                  have hg0 := k7 (by omega)
                  subst hg0
                  refine y_150 G Yt d1 W (by decide) hfr hs hpr hg ⟨b1, b2, pk_us, b4, fun _ => bb, fun _ _ => ?_, fun z => (by cases z), fun z => (by cases z), fun z => (by cases z), fun z => (by cases z), fun z => (by cases z)⟩ YrT (fun z => by omega) (fun z => by omega) h
                  rw [y_t_k, if_pos rfl]
                · rw [if_neg o15] at h d1
                  refine y_150 G Yt d1 W (by decide) hfr hs hpr hg ⟨b1, b2, pk_us, b4, fun _ => bb, fun _ _ => ?_, fun _ z => ?_, fun _ z => ?_, fun z => (by cases z), fun z => (by cases z), fun z => (by cases z)⟩ YrT (fun z => by omega) (fun z => by omega) h
                  · rw [y_t_k]
                    by_cases z : gt = 0
                    · rw [if_pos z, if_pos z]
                    · rw [if_neg z, if_neg z]; exact b6 (Or.inl rfl) (by omega)
                  · rw [y_t_k]
                    by_cases z : gt = 1
                    · rw [if_pos z, if_pos z]
                    · rw [if_neg z, if_neg z]; exact b7 rfl (by omega)
                  · rw [y_t_k]
                    by_cases z : gt = 2
                    · rw [if_pos z, if_pos z]
                    · rw [if_neg z, if_neg z]; exact b8 rfl (by omega)
    · have e : m_take g ((nd, ev, ph, rm), (gt, x0, x1, x2), (la, bv, bx, ty), dt, sc, sr, tg, pl) v = ((nd, ev, ph, rm), (gt + 1, x0, x1, x2), (v, bv, bx, ty), dt, sc, sr, tg, pl) := by
        cases ph with
        | zero => exact absurd rfl p0
        | succ k => rfl
      by_cases p5 : ph = 5 ∨ ph = 6
      · rw [if_pos (by omega)]
        refine br_t rfl ?_
        have hrm : rm = [] := by
          rcases hlk with h | h | h | h | h | h | h | h | h | h
          · omega
          · omega
          · omega
          · omega
          · omega
          · omega
          · exact h.2.2.1
          · exact h.2.2.1
          · omega
          · omega
        have hop2 : (ph = 5 → gO g nd = 17 ∨ gO g nd = 18) ∧ (ph = 6 → gO g nd = 23) := by
          rcases hlk with h | h | h | h | h | h | h | h | h | h <;> omega
        have e0 : m_pro g (m_take g ((nd, ev, ph, rm), (gt, x0, x1, x2), (la, bv, bx, ty), dt, sc, sr, tg, pl) v) r s = m_dlv r v s := by
          rw [e]
          subst hrm
          rcases p5 with rfl | rfl
          · rfl
          · rfl
        refine fb_if (nI_eq (b := 17) (by omega) (by decide)) (fun z => DN e0 p0) (fun z => ?_)
        refine fb_if (nI_eq (b := 18) (by omega) (by decide)) (fun z2 => DN e0 p0) (fun z2 => ?_)
        exact br_t (by rw [hop2.2 (by omega)]; rfl) (DN e0 p0)
      · have hp3 : ph < 4 := by omega
        rw [if_neg (fun z => p0 z.1), e] at h
        rw [e] at d1
        have G150 : wY_advance_150 P (nI (m_yh r)) (nI nd) (nI (gO g nd)) (nI (gK g nd).length) (nI (gD g)) (nI (gF g)) h_count h_open h_types (nI (m_yh r + 1)) v xt xv xy xp 0 0 1 ((y_z0 oc).1) ((y_z0 oc).2.1) ((y_z0 oc).2.2.1) ((y_z0 oc).2.2.2.1) ((y_z0 oc).2.2.2.2) (nI (sBe s)) (nI (sPr s)) c_sort c_op c_na c_nb c_up c_val c_size c_params c_parent gv (sCe s) (sLo s) gh c_node (upd c_got (m_yh r) (nI (gt + 1))) c_handle c_pTarget c_pPlace c_act c_mode c_bVar c_pType (y_t c_v0 (m_yh r) gt 0 v) (y_t c_v1 (m_yh r) gt 1 v) (y_t c_v2 (m_yh r) gt 2 v) (upd c_last (m_yh r) v) c_bVal c_pVal (sOu s) := by
          have wk : (gO g nd = 9 ∨ gO g nd = 13 ∨ gO g nd = 6 ∨ gO g nd = 10 → ph = 1 ∧ 1 ≤ gt) ∧ (ph = 2 → 1 ≤ gt) := by
            rcases hlk with h | h | h | h | h | h | h | h | h | h
            · omega
            · obtain ⟨_, _, z⟩ := h
              rcases z with z | z | z <;> omega
            · omega
            · have := h.2.2.2.2
              omega
            all_goals omega
          obtain ⟨b1, b2, b3, b4, b5, b6, b7, b8, b9, b10, b11⟩ := YA
          refine y_150 G Yt d1 W hp3 hfr hs hpr hg ⟨b1, b2, pk_us, b4, fun _ => b5 trivial, fun z _ => ?_, fun z => absurd z p0, fun z => absurd z p0, fun _ _ => pk_us, fun _ z z2 => ?_, b11⟩ YrT (fun z z2 => ?_) (fun z => ⟨?_, fun z2 => ?_⟩) h
          · have z2 : 1 ≤ gt := by
              rcases z with z | z | ⟨z, y⟩
              · omega
              · exact wk.2 z
              · exact (wk.1 (by omega)).2
            rw [y_t_k, if_neg (by omega)]
            exact b6 z (by omega)
          · have := (wk.1 (by omega)).2
            omega
          · have := (wk.1 (by omega)).2
            omega
          · exact (wk.1 (by omega)).1
          · have := (wk.1 (by omega)).2
            omega
        by_cases p3 : ph = 3
        · rw [if_pos (Or.inl p3)]
          have o15 : gO g nd = 15 := by
            rcases hlk with h | h | h | h | h | h | h | h | h | h <;> omega
          refine br_t rfl ?_
          rw [o15] at G150 ⊢
          refine br_f (by decide) (br_f (by decide) (br_f (by decide) G150))
        · rw [if_neg (by omega)]
          exact br_f (by decide) G150
  refine ⟨vp_in_nI hk (by decide), ?_⟩
  rw [a3]
  have T2 : ∀ {b0 b1 : Nat → Int32}, b0 = y_t c_v0 (m_yh r) gt 0 v → b1 = y_t c_v1 (m_yh r) gt 1 v → wY_advance_82 P (nI (m_yh r)) (nI nd) (nI (gO g nd)) (nI (gK g nd).length) (nI (gD g)) (nI (gF g)) h_count h_open h_types (nI (m_yh r + 1)) v xt xv xy xp 0 0 1 ((y_z0 oc).1) ((y_z0 oc).2.1) ((y_z0 oc).2.2.1) ((y_z0 oc).2.2.2.1) ((y_z0 oc).2.2.2.2) (nI (sBe s)) (nI (sPr s)) c_sort c_op c_na c_nb c_up c_val c_size c_params c_parent gv (sCe s) (sLo s) gh c_node c_got c_handle c_pTarget c_pPlace c_act c_mode c_bVar c_pType b0 b1 c_v2 (upd c_last (m_yh r) v) c_bVal c_pVal (sOu s) := by
    intro b0 b1 e0 e1
    subst e0 e1
    refine ⟨vp_in_nI hk (by decide), ?_⟩
    rw [nI_clamp (by omega), a3]
    unfold y_t at TAIL ⊢
    refine fb_if (nI_eq (b := 2) (by omega) (by decide)) (fun z => ?_) (fun z => ?_)
    · rw [if_pos z] at TAIL
      exact ⟨vp_in_nI hk (by decide), nm_e TAIL⟩
    · rw [if_neg z] at TAIL
      exact TAIL
  have T1 : ∀ {b0 : Nat → Int32}, b0 = y_t c_v0 (m_yh r) gt 0 v → wY_advance_62 P (nI (m_yh r)) (nI nd) (nI (gO g nd)) (nI (gK g nd).length) (nI (gD g)) (nI (gF g)) h_count h_open h_types (nI (m_yh r + 1)) v xt xv xy xp 0 0 1 ((y_z0 oc).1) ((y_z0 oc).2.1) ((y_z0 oc).2.2.1) ((y_z0 oc).2.2.2.1) ((y_z0 oc).2.2.2.2) (nI (sBe s)) (nI (sPr s)) c_sort c_op c_na c_nb c_up c_val c_size c_params c_parent gv (sCe s) (sLo s) gh c_node c_got c_handle c_pTarget c_pPlace c_act c_mode c_bVar c_pType b0 c_v1 c_v2 (upd c_last (m_yh r) v) c_bVal c_pVal (sOu s) := by
    intro b0 e0
    refine ⟨vp_in_nI hk (by decide), ?_⟩
    rw [nI_clamp (by omega), a3]
    refine fb_if (nI_eq (b := 1) (by omega) (by decide)) (fun z => ?_) (fun z => ?_)
    · exact ⟨vp_in_nI hk (by decide), nm_e (T2 e0 (by unfold y_t; rw [if_pos z]))⟩
    · exact T2 e0 (by unfold y_t; rw [if_neg z])
  refine fb_if (nI_eq (b := 0) (by omega) (by decide)) (fun z => ?_) (fun z => ?_)
  · exact ⟨vp_in_nI hk (by decide), nm_e (T1 (by unfold y_t; rw [if_pos z]))⟩
  · exact T1 (by unfold y_t; rw [if_neg z])
end
end
section
/-! the reference's side: searching for a clause -/
section
variable {g : mG} {V : Nat → Prop} {Z : Nat → Nat} {pa : Nat → Option Nat} {T : Nat} {h_count h_open h_types : Int32} {c_sort c_op c_na c_nb c_up c_val c_size c_params c_parent : Nat → Int32} {s : St} {oc ret xt xv xy xp ha exi v : Int32} {be : Nat} {gv gh : Nat → Int32} {c_node c_got c_handle c_pTarget c_pPlace c_act c_mode c_bVar c_pType c_v0 c_v1 c_v2 c_last c_bVal c_pVal : Nat → Int32} {l r : List Fr} {f : Fr} {P : SY → Prop} {post : Int32 → SY → Prop} {N i p q : Nat}
theorem m_yh_suf : ∀ {l l' : List Fr}, l' <:+ l → m_yh l' ≤ m_yh l
  | [], l', h => by rw [List.suffix_nil.mp h]; exact Nat.le_refl _
  | f :: r, l', h => by
    rcases List.suffix_cons_iff.mp h with z | z
    · rw [z]; exact Nat.le_refl _
    · have := m_yh_suf z
      have hm := m_yh_p (f := f) (r := r)
      omega
theorem w_1617 {f : Fr} {w : Nat} (h : w_lk g w f) (o : gO g (fr_nd f) = 16 ∨ gO g (fr_nd f) = 17) : fr_ph f = 1 ∨ fr_ph f = 5 ∨ fr_ph f = 7 := by
  obtain ⟨⟨nd, ev, ph, rm⟩, ⟨gt, x0, x1, x2⟩, ⟨la, bv, bx, ty⟩, dt, sc, sr, tg, pl⟩ := f
  have o : gO g nd = 16 ∨ gO g nd = 17 := o
  show ph = 1 ∨ ph = 5 ∨ ph = 7
  rcases h with h | h | h | h | h | h | h | h | h | h <;> omega
theorem w_l_suf : ∀ {l l' : List Fr}, w_l g V Z pa 1 l → l' <:+ l → w_l g V Z pa 1 l'
  | [], l', _, h => by rw [List.suffix_nil.mp h]; trivial
  | f :: r, l', W, h => by
    rcases List.suffix_cons_iff.mp h with z | z
    · rw [z]; exact W
    · exact w_l_suf W.2 z
theorem yL_suf : ∀ {l l' : List Fr}, yL g c_node c_got c_handle c_pTarget c_pPlace c_act c_mode c_bVar c_pType c_v0 c_v1 c_v2 c_last c_bVal c_pVal l → l' <:+ l → yL g c_node c_got c_handle c_pTarget c_pPlace c_act c_mode c_bVar c_pType c_v0 c_v1 c_v2 c_last c_bVal c_pVal l'
  | [], l', _, h => by rw [List.suffix_nil.mp h]; trivial
  | f :: r, l', Y, h => by
    rcases List.suffix_cons_iff.mp h with z | z
    · rw [z]; exact Y
    · exact yL_suf Y.2 z
theorem y_isa {h_depth h_fuel h_sp h_ret h_xTarget h_xVal h_xType h_xPlace h_have h_exiting h_running h_outcome h_value h_error h_datum h_place h_beats h_printed : Int32} {c_global c_cells c_locals c_has c_node c_got c_handle c_pTarget c_pPlace c_act c_mode c_bVar c_pType c_v0 c_v1 c_v2 c_last c_bVal c_pVal c_out : Nat → Int32} (Yt : yT g V h_count h_open h_types c_sort c_op c_na c_nb c_up c_val c_size c_params c_parent) {Q : Int32 → Prop} (t a : Nat) (ht : t ≤ 15) (ha1 : 1 ≤ a) (ha : a ≤ 15) (h : Q (if gI g t a = true then 1 else 0)) : wpY_isA Q (h_depth, h_fuel, h_count, h_open, h_types, h_sp, h_ret, h_xTarget, h_xVal, h_xType, h_xPlace, h_have, h_exiting, h_running, h_outcome, h_value, h_error, h_datum, h_place, h_beats, h_printed, c_sort, c_op, c_na, c_nb, c_up, c_val, c_size, c_params, c_parent, c_global, c_cells, c_locals, c_has, c_node, c_got, c_handle, c_pTarget, c_pPlace, c_act, c_mode, c_bVar, c_pType, c_v0, c_v1, c_v2, c_last, c_bVal, c_pVal, c_out) (nI t) (nI a) := by
  obtain ⟨_, _, _, _, _, pt, h1, h2⟩ := Yt
  rw [h2 t a ht] at h
  exact ⟨17, y_isa5 h1 a ha1 ha 16 t 0 17 (by omega) (by omega) (by omega) h⟩
theorem y_sl {h_depth h_fuel h_sp h_ret h_xTarget h_xVal h_xType h_xPlace h_have h_exiting h_running h_outcome h_value h_error h_datum h_place h_beats h_printed : Int32} {c_global c_cells c_locals c_has c_node c_got c_handle c_pTarget c_pPlace c_act c_mode c_bVar c_pType c_v0 c_v1 c_v2 c_last c_bVal c_pVal c_out : Nat → Int32} (G : g_w g V Z pa T) (Yt : yT g V h_count h_open h_types c_sort c_op c_na c_nb c_up c_val c_size c_params c_parent) (k ty : Nat) (hk : k < 520) (hty : ty ≤ 15) (hv0 : c_v0 k = nI ty) {L0 : List Fr} : ∀ (L : Nat) (l : List Fr) (w : Nat), l.length ≤ L → w_l g V Z pa w l → l <:+ L0 → (∀ q r', l = q :: r' → fr_ph q ≠ 4 ∧ fr_ph q ≠ 8) → yL g c_node c_got c_handle c_pTarget c_pPlace c_act c_mode c_bVar c_pType c_v0 c_v1 c_v2 c_last c_bVal c_pVal l → m_yh l ≤ 520 → (m_sf g ty (m_ch g l) = none → wY_search_116 P (nI k) (-1) h_depth h_fuel h_count h_open h_types h_sp h_ret h_xTarget h_xVal h_xType h_xPlace h_have h_exiting h_running h_outcome h_value h_error h_datum h_place h_beats h_printed c_sort c_op c_na c_nb c_up c_val c_size c_params c_parent c_global c_cells c_locals c_has c_node c_got c_handle c_pTarget c_pPlace c_act c_mode c_bVar c_pType c_v0 c_v1 c_v2 c_last c_bVal c_pVal c_out) → (∀ q r', (q :: r') <:+ L0 → fr_ph q = 1 → m_sf g ty (m_ch g l) = some ((r'.length, fr_nd q, fr_ev q), m_ch g r') → wY_search_116 P (nI k) (nI (m_yh r')) h_depth h_fuel h_count h_open h_types h_sp h_ret h_xTarget h_xVal h_xType h_xPlace h_have h_exiting h_running h_outcome h_value h_error h_datum h_place h_beats h_printed c_sort c_op c_na c_nb c_up c_val c_size c_params c_parent c_global c_cells c_locals c_has c_node c_got c_handle c_pTarget c_pPlace c_act c_mode c_bVar c_pType c_v0 c_v1 c_v2 c_last c_bVal c_pVal c_out) → ∀ n, m_yh l < n → wY_search_19 P (nI k) h_depth h_fuel h_count h_open h_types h_sp h_ret h_xTarget h_xVal h_xType h_xPlace h_have h_exiting h_running h_outcome h_value h_error h_datum h_place h_beats h_printed c_sort c_op c_na c_nb c_up c_val c_size c_params c_parent c_global c_cells c_locals c_has c_node c_got c_handle c_pTarget c_pPlace c_act c_mode c_bVar c_pType c_v0 c_v1 c_v2 c_last c_bVal c_pVal c_out n (nI (m_yh l) - 1)
  | _, _, _, _, _, _, _, _, _, _, _, 0, hn => by omega
  | _, [], _, _, _, _, _, _, _, h1, _, n + 1, hn => by
    rw [wY_search_19]
    exact br_t (by decide) (h1 rfl)
  | 0, f :: r, _, hL, _, _, _, _, _, _, _, n + 1, hn => absurd hL (by simp)
  | L + 1, f :: r, w, hL, W, hsuf, hq, Y, h5, h1, h2, n + 1, hn => by
    have hL : r.length + 1 ≤ L + 1 := hL
    obtain ⟨h4, h8⟩ := hq f r rfl
    have hm := m_yh_p (f := f) (r := r)
    have hr : r <:+ L0 := (List.suffix_cons f r).trans hsuf
    have Y1 := Y.1
    unfold yF at Y1
    have hch : m_ch g (f :: r) = if fr_ph f = 7 then fr_sc f else if fr_ph f = 1 ∧ (gO g (fr_nd f) = 16 ∨ gO g (fr_nd f) = 17) then (r.length, fr_nd f, fr_ev f) :: m_ch g r else m_ch g r := rfl
    by_cases p7 : fr_ph f = 7
    · rw [if_pos p7] at Y1 hm
      rw [if_pos p7] at hch
      obtain ⟨q0, r0, e0, p0, s0⟩ := W.1.2.2.2.2.2.1 p7
      subst e0
      obtain ⟨g7, g6, g1, g3⟩ := w_48 p0
      obtain ⟨t1, t2, t3, t4, t5, t6⟩ := W.2.1.2.2.2.2.1 p0
      have hq0 := m_yh_p (f := q0) (r := r0)
      rw [if_neg g7] at hq0
      have hp : m_yh r0 + 1 ≤ m_yh (q0 :: r0) := by
        rw [hq0]
        split <;> omega
      rw [hm, Nat.add_zero] at h5 hn ⊢
      obtain ⟨j, hj⟩ : ∃ j, m_yh (q0 :: r0) = j + 1 := ⟨m_yh (q0 :: r0) - 1, by omega⟩
      have hnode : c_node j = -1 := by
        have Y2 := Y.2.1
        unfold yF at Y2
        rw [if_neg g7] at Y2
        by_cases q4 : fr_ph q0 = 4
        · rw [if_pos q4] at Y2 hq0
          have : j = m_yh r0 + 1 := by omega
          rw [this]; exact Y2.2.2.2.1
        · rw [if_neg q4] at Y2 hq0
          have q8 : fr_ph q0 = 8 := by omega
          rw [if_pos q8] at Y2
          have : j = m_yh r0 := by omega
          rw [this]; exact Y2.1
      have hhan : c_handle j = nI (y_at r0 (fr_sr q0)) := by
        have := Y1.2.2 q0 r0 rfl
        rw [hj] at this
        exact this
      rw [hj] at h5 hn ⊢
      have hsufd : r0.drop (r0.length - fr_sr q0) <:+ r0 := List.drop_suffix _ _
      have hyd := m_yh_suf hsufd
      rw [nI_pred, wY_search_19]
      refine br_f (nI_pos (by omega)) ⟨vp_in_nI (by omega) (by decide), ?_⟩
      rw [nI_clamp (n := j) (by omega), hnode]
      refine br_f (by decide) ⟨vp_in_nI (by omega) (by decide), ?_⟩
      rw [hhan]
      refine nm_e (nm_r (fo_m1 _) ?_)
      have hch2 : m_ch g (f :: q0 :: r0) = m_ch g (r0.drop (r0.length - fr_sr q0)) := by rw [hch, t3, s0]
      rw [hch2] at h1 h2
      have Wd : w_l g V Z pa 1 (r0.drop (r0.length - fr_sr q0)) := w_l_suf W.2.2 hsufd
      have Yd : yL g c_node c_got c_handle c_pTarget c_pPlace c_act c_mode c_bVar c_pType c_v0 c_v1 c_v2 c_last c_bVal c_pVal (r0.drop (r0.length - fr_sr q0)) := yL_suf Y.2.2 hsufd
      refine y_sl G Yt k ty hk hty hv0 L _ 1 ?_ Wd (hsufd.trans ((List.suffix_cons q0 r0).trans hr)) t6 Yd (by omega) h1 h2 n (by omega)
      have := hsufd.length_le
      have hL : r0.length + 1 + 1 ≤ L + 1 := hL
      omega
    · rw [if_neg p7, if_neg h4, if_neg h8] at Y1
      rw [if_neg p7] at hch
      rw [if_neg p7, if_neg h4] at hm
      rw [hm] at h5 hn ⊢
      have hf1 := W.1.1
      have hn4 := (G.1 _ hf1).2.2.2.1
      have hO := w_lsO W.1.2.2.1 h8
      have hop := ((Yt.1 _ hf1).2.2.1 hO).2
      have ycell : c_node (m_yh r) = nI (fr_nd f) ∧ c_mode (m_yh r) = if fr_ph f = 3 ∨ fr_ph f = 5 ∨ fr_ph f = 6 then 1 else 0 := by
        obtain ⟨⟨nd, ev, ph, rm⟩, ⟨gt, x0, x1, x2⟩, ⟨la, bv, bx, ty⟩, dt, sc, sr, tg, pl⟩ := f
        exact ⟨Y1.1, Y1.2.2.2.1⟩
      have NEXT : ¬ (fr_ph f = 1 ∧ (gO g (fr_nd f) = 16 ∨ gO g (fr_nd f) = 17)) → wY_search_19 P (nI k) h_depth h_fuel h_count h_open h_types h_sp h_ret h_xTarget h_xVal h_xType h_xPlace h_have h_exiting h_running h_outcome h_value h_error h_datum h_place h_beats h_printed c_sort c_op c_na c_nb c_up c_val c_size c_params c_parent c_global c_cells c_locals c_has c_node c_got c_handle c_pTarget c_pPlace c_act c_mode c_bVar c_pType c_v0 c_v1 c_v2 c_last c_bVal c_pVal c_out n (nI (m_yh r) - 1) := by
        intro z
        rw [if_neg z] at hch
        rw [hch] at h1 h2
        exact y_sl G Yt k ty hk hty hv0 L r 1 (by omega) W.2 hr (W.1.2.2.2.2.2.2.1 p7) Y.2 (by omega) h1 h2 n (by omega)
      have S74 : gO g (fr_nd f) = 16 ∨ gO g (fr_nd f) = 17 → wY_search_74 P (wY_search_19 P (nI k) h_depth h_fuel h_count h_open h_types h_sp h_ret h_xTarget h_xVal h_xType h_xPlace h_have h_exiting h_running h_outcome h_value h_error h_datum h_place h_beats h_printed c_sort c_op c_na c_nb c_up c_val c_size c_params c_parent c_global c_cells c_locals c_has c_node c_got c_handle c_pTarget c_pPlace c_act c_mode c_bVar c_pType c_v0 c_v1 c_v2 c_last c_bVal c_pVal c_out n) (nI k) (nI (m_yh r)) h_depth h_fuel h_count h_open h_types h_sp h_ret h_xTarget h_xVal h_xType h_xPlace h_have h_exiting h_running h_outcome h_value h_error h_datum h_place h_beats h_printed c_sort c_op c_na c_nb c_up c_val c_size c_params c_parent c_global c_cells c_locals c_has c_node c_got c_handle c_pTarget c_pPlace c_act c_mode c_bVar c_pType c_v0 c_v1 c_v2 c_last c_bVal c_pVal c_out := by
        intro o
        refine ⟨vp_in_nI (by omega) (by decide), ?_⟩
        rw [nI_clamp (n := m_yh r) (by omega), ycell.2]
        by_cases p1 : fr_ph f = 1
        · rw [if_neg (by omega)]
          rw [if_pos ⟨p1, o⟩] at hch
          have hA := ((G.1 _ hf1).2.2.2.2.2.2.2.2.1 hO).2.2.2.1 (by omega)
          have hT : T ≤ 15 := G.2.2.2.2.2.2.2.1
          refine br_t rfl ⟨vp_in_nI hk (by decide), vp_in_nI (by omega) (by decide), ?_⟩
          rw [ycell.1]
          refine ⟨vp_in_nI hn4 (by decide), ?_⟩
          rw [nI_clamp (n := k) (by omega), hv0, nI_clamp (n := fr_nd f) (by omega), (Yt.1 _ hf1).2.2.2.1 (by unfold fo_ma; omega)]
          refine y_isa Yt ty _ hty hA.1 (by omega) ?_
          have hm2 : m_sf g ty ((r.length, fr_nd f, fr_ev f) :: m_ch g r) = if gI g ty (gA g (fr_nd f)) = true then some ((r.length, fr_nd f, fr_ev f), m_ch g r) else m_sf g ty (m_ch g r) := rfl
          rw [hch, hm2] at h1 h2
          by_cases z : gI g ty (gA g (fr_nd f)) = true
          · rw [if_pos z] at h2 ⊢
            exact br_f (by decide) (h2 f r hsuf p1 rfl)
          · rw [if_neg z] at h1 h2 ⊢
            refine br_t rfl (nm_r (fo_m1 _) ?_)
            exact y_sl G Yt k ty hk hty hv0 L r 1 (by omega) W.2 hr (W.1.2.2.2.2.2.2.1 p7) Y.2 (by omega) h1 h2 n (by omega)
        · have p5 : fr_ph f = 3 ∨ fr_ph f = 5 ∨ fr_ph f = 6 := by
            have := w_1617 W.1.2.2.1 o
            omega
          rw [if_pos p5]
          exact br_f (by decide) (nm_r (fo_m1 _) (NEXT (fun z => p1 z.1)))
      rw [nI_pred, wY_search_19]
      refine br_f (nI_pos (by omega)) ⟨vp_in_nI (by omega) (by decide), ?_⟩
      rw [nI_clamp (n := m_yh r) (by omega), ycell.1]
      refine br_t (nI_pos' (by omega)) ⟨vp_in_nI (by omega) (by decide), vp_in_nI hn4 (by decide), ?_⟩
      rw [nI_clamp (n := fr_nd f) (by omega), hop]
      refine fb_if (nI_eq (b := 16) (by omega) (by decide)) (fun o => S74 (Or.inl o)) (fun o => ⟨vp_in_nI (by omega) (by decide), vp_in_nI hn4 (by decide), ?_⟩)
      refine fb_if (nI_eq (b := 17) (by omega) (by decide)) (fun o2 => S74 (Or.inr o2)) (fun o2 => nm_r (fo_m1 _) (NEXT (fun z => by omega)))
end
end
section
/-! the reference's side: a search's step -/
section
variable {g : mG} {V : Nat → Prop} {Z : Nat → Nat} {pa : Nat → Option Nat} {T : Nat} {h_count h_open h_types : Int32} {c_sort c_op c_na c_nb c_up c_val c_size c_params c_parent : Nat → Int32} {s : St} {oc ret xt xv xy xp ha exi v : Int32} {be : Nat} {gv gh : Nat → Int32} {c_node c_got c_handle c_pTarget c_pPlace c_act c_mode c_bVar c_pType c_v0 c_v1 c_v2 c_last c_bVal c_pVal : Nat → Int32} {l r : List Fr} {f : Fr} {P : SY → Prop} {post : Int32 → SY → Prop} {N i p q : Nat}
theorem w_srI (G : g_w g V Z pa T) {nd ev ph gt bv ty sr : Nat} {rm : List Nat} {x0 x1 x2 la bx dt pl : Int32} {sc : List (Nat × Nat × Nat)} {tg : Option Nat} {r : List Fr} {h n e : Nat} {t : List (Nat × Nat × Nat)} (F : w_f g V Z pa 1 ((nd, ev, ph, rm), (gt, x0, x1, x2), (la, bv, bx, ty), dt, sc, sr, tg, pl) r) (hp : ph = 4 ∨ ph = 8) (c3 : ((h, n, e) :: t) <:+ m_ch g r) (hO16 : gO g n = 16) : w_iq g Z ((gK g n).getD 0 0) (((n, e, 7, []), (0, 0, 0, 0), (0, m_cv g n, dt, 0), 0, t, 0, none, 0) :: ((nd, ev, ph, rm), (gt, x0, x1, x2), (la, bv, bx, ty), dt, t, h, tg, pl) :: r) := by
  obtain ⟨hne7, hne6, hne1, hne3⟩ := w_48 hp
  have fcf : m_fc (((nd, ev, ph, rm), (gt, x0, x1, x2), (la, bv, bx, ty), dt, t, h, tg, pl) :: r) = m_fc r := w_fc_ne hne6
  have ef : m_fc (((n, e, 7, []), (0, 0, 0, 0), (0, m_cv g n, dt, 0), 0, t, 0, none, 0) :: ((nd, ev, ph, rm), (gt, x0, x1, x2), (la, bv, bx, ty), dt, t, h, tg, pl) :: r) = m_fc r := by
    rw [w_fc_ne (by show (7 : Nat) ≠ 6; decide)]; exact fcf
  have ec : m_ch g (((n, e, 7, []), (0, 0, 0, 0), (0, m_cv g n, dt, 0), 0, t, 0, none, 0) :: ((nd, ev, ph, rm), (gt, x0, x1, x2), (la, bv, bx, ty), dt, t, h, tg, pl) :: r) = t := if_pos rfl
  have ey : m_yh (((n, e, 7, []), (0, 0, 0, 0), (0, m_cv g n, dt, 0), 0, t, 0, none, 0) :: ((nd, ev, ph, rm), (gt, x0, x1, x2), (la, bv, bx, ty), dt, t, h, tg, pl) :: r) ≤ 2 + m_yh r := by
    show m_yh r + (if ph = 7 then 0 else if ph = 4 then 2 else 1) + 0 ≤ 2 + m_yh r
    split
    · omega
    · split <;> omega
  obtain ⟨f1, f2, f3, f4, f5, f6, f7, f8, f9, f10⟩ := F
  obtain ⟨i1, i2⟩ := f9 hne7
  obtain ⟨y1, y2⟩ := w_kY_suf (g := g) (Z := Z) c3
  have y1 : (if gO g n = 16 then 3 * Z ((gK g n).getD 0 0) + 1 else 0) + w_kY g Z t ≤ w_kY g Z (m_ch g r) := y1
  have y2 : (if gO g n = 16 then 4 * Z ((gK g n).getD 0 0) + 2 else 0) + w_kX g Z t ≤ w_kX g Z (m_ch g r) := y2
  rw [if_pos hO16] at y1 y2
  have zn : 1 ≤ Z nd := (G.1 nd f1).2.1
  unfold w_iq
  rw [ef, ec]
  exact w_ar1 (L := r.length) i1 i2 y1 y2 zn ey
theorem y_srch (G : g_w g V Z pa T) (Yt : yT g V h_count h_open h_types c_sort c_op c_na c_nb c_up c_val c_size c_params c_parent) {nd ev ph gt bv ty sr : Nat} {rm : List Nat} {x0 x1 x2 la bx dt pl : Int32} {sc : List (Nat × Nat × Nat)} {tg : Option Nat} (F : w_f g V Z pa 1 ((nd, ev, ph, rm), (gt, x0, x1, x2), (la, bv, bx, ty), dt, sc, sr, tg, pl) r) (W : w_l g V Z pa 1 r) (hp : ph = 4 ∨ ph = 8) (hs : w_s g s) (hg : yGl gv gh (sGl s)) (Y : yL g c_node c_got c_handle c_pTarget c_pPlace c_act c_mode c_bVar c_pType c_v0 c_v1 c_v2 c_last c_bVal c_pVal (((nd, ev, ph, rm), (gt, x0, x1, x2), (la, bv, bx, ty), dt, sc, sr, tg, pl) :: r)) (h : ∀ u', yQ g V h_count h_open h_types c_sort c_op c_na c_nb c_up c_val c_size c_params c_parent (m_srch g ((nd, ev, ph, rm), (gt, x0, x1, x2), (la, bv, bx, ty), dt, sc, sr, tg, pl) r s) u' → P u') : wpY_step P (yU g h_count h_open h_types c_sort c_op c_na c_nb c_up c_val c_size c_params c_parent (y_z0 oc) 1 (sBe s) s (m_yh (((nd, ev, ph, rm), (gt, x0, x1, x2), (la, bv, bx, ty), dt, sc, sr, tg, pl) :: r)) ret xt xv xy xp ha 0 gv gh c_node c_got c_handle c_pTarget c_pPlace c_act c_mode c_bVar c_pType c_v0 c_v1 c_v2 c_last c_bVal c_pVal) := by
  obtain ⟨hne7, hne6, hne1, hne3⟩ := w_48 hp
  have f1 : V nd := F.1
  have n4 := (G.1 nd f1).2.2.2.1
  have hO28 := (G.1 nd f1).1
  obtain ⟨s1, s2, s3, s4, s5, s6⟩ := F.2.2.2.2.1 hp
  have s2 : sr ≤ r.length := s2
  have s3 : m_ch g (r.drop (r.length - sr)) = sc := s3
  have s5 : ty ≤ 15 := s5
  have s6 : ∀ q r', r.drop (r.length - sr) = q :: r' → fr_ph q ≠ 4 ∧ fr_ph q ≠ 8 := s6
  have s1 : sc <:+ m_ch g r := s1
  have h5 : m_yh r ≤ 518 := y_len (F.2.2.2.2.2.2.2.2.1 hne7) (G.1 nd f1).2.1
  have hF : gF g ≤ 200 := G.2.2.2.2.2.2.1
  have hb : bv = 0 := w_bd48 F.2.2.2.1 hp
  have hm : m_yh (((nd, ev, ph, rm), (gt, x0, x1, x2), (la, bv, bx, ty), dt, sc, sr, tg, pl) :: r) = m_yh r + (if ph = 7 then 0 else if ph = 4 then 2 else 1) := rfl
  rw [if_neg hne7] at hm
  have Y1 := Y.1
  have Yr := Y.2
  unfold yF at Y1
  rw [if_neg (show ¬ fr_ph ((nd, ev, ph, rm), (gt, x0, x1, x2), (la, bv, bx, ty), dt, sc, sr, tg, pl) = 7 from hne7)] at Y1
  have op20 : ph = 8 → gO g nd = 28 := by
    intro z
    obtain ⟨_, _, f3, _⟩ := F
    rcases f3 with h | h | h | h | h | h | h | h | h | h
    · omega
    · omega
    · omega
    · omega
    · omega
    · omega
    · omega
    · omega
    · omega
    · exact h.2.1
  have op1617 : ph = 4 → gO g nd ≤ 26 ∧ gO g nd ≠ 16 ∧ gO g nd ≠ 17 ∧ gO g nd ≠ 15 := by
    intro z
    obtain ⟨_, _, f3, _⟩ := F
    rcases f3 with h | h | h | h | h | h | h | h | h | h <;> omega
  obtain ⟨k, hk1, hkr, hkS, hkG, hkY⟩ : ∃ k, m_yh (((nd, ev, ph, rm), (gt, x0, x1, x2), (la, bv, bx, ty), dt, sc, sr, tg, pl) :: r) = k + 1 ∧ (ph = 4 → k = m_yh r + 1) ∧ (c_node k = -1 ∧ c_v0 k = nI ty ∧ c_v1 k = dt ∧ c_v2 k = nI nd ∧ c_mode k = (if gO g nd = 20 then 0 else 1)) ∧ (c_got k = nI (y_at r sr) - 1 ∨ (ph = 4 ∧ sr = r.length ∧ c_got k = nI (m_yh r))) ∧ (ph = 8 → k = m_yh r) := by
    by_cases p4 : ph = 4
    · rw [if_pos p4] at hm
      rw [if_pos (show fr_ph ((nd, ev, ph, rm), (gt, x0, x1, x2), (la, bv, bx, ty), dt, sc, sr, tg, pl) = 4 from p4)] at Y1
      obtain ⟨z1, z2, z3, z4, z5, z6, z7, z8, z9⟩ := Y1
      refine ⟨m_yh r + 1, hm, fun _ => rfl, ⟨z4, z5, z6, z7, z8⟩, ?_, fun z => by omega⟩
      have z9 : c_got (m_yh r + 1) = if sr = r.length then nI (m_yh r) else nI (y_at r sr) - 1 := z9
      by_cases e : sr = r.length
      · rw [if_pos e] at z9
        exact Or.inr ⟨p4, e, z9⟩
      · rw [if_neg e] at z9
        exact Or.inl z9
    · rw [if_neg p4] at hm
      have p8 : ph = 8 := by omega
      rw [if_neg (show ¬ fr_ph ((nd, ev, ph, rm), (gt, x0, x1, x2), (la, bv, bx, ty), dt, sc, sr, tg, pl) = 4 from p4), if_pos (show fr_ph ((nd, ev, ph, rm), (gt, x0, x1, x2), (la, bv, bx, ty), dt, sc, sr, tg, pl) = 8 from p8)] at Y1
      obtain ⟨z4, z5, z6, z7, z8, z9⟩ := Y1
      exact ⟨m_yh r, hm, fun z => absurd z p4, ⟨z4, z5, z6, z7, z8⟩, Or.inl z9, fun _ => rfl⟩
  have hkle : m_yh r ≤ k ∧ k < 520 := by
    rcases hp with z | z
    · have := hkr z
      omega
    · have := hkY z
      omega
  obtain ⟨j1, j2, j3, j4, j5⟩ := hkS
  have YrB : yL g c_node c_got c_handle c_pTarget c_pPlace c_act c_mode (upd c_bVar k (-1)) c_pType c_v0 c_v1 c_v2 c_last c_bVal c_pVal r := yL_keep W Yr yE_r yE_r yE_r yE_r yE_r yE_r yE_r (yE_u yE_r hkle.1) yE_r yE_r yE_r yE_r yE_r yE_r yE_r
  have YFk : ∀ {go ha' bv' bl' : Nat → Int32} {sc' : List (Nat × Nat × Nat)} {sr' : Nat}, yE k go c_got → (go k = nI (y_at r sr') - 1 ∨ (ph = 4 ∧ sr' = r.length ∧ go k = nI (m_yh r))) → (ph = 4 → bv' (m_yh r) = -1) → (sr' = r.length → ph = 4 → go k = nI (m_yh r)) → yF g c_node go (ha') c_pTarget c_pPlace c_act c_mode (bv') c_pType c_v0 c_v1 c_v2 c_last (bl') c_pVal ((nd, ev, ph, rm), (gt, x0, x1, x2), (la, bv, bx, ty), dt, sc', sr', tg, pl) r := by
    intro go ha' bv' bl' sc' sr' e1 e2 e3 e4
    unfold yF
    rw [if_neg (show ¬ fr_ph ((nd, ev, ph, rm), (gt, x0, x1, x2), (la, bv, bx, ty), dt, sc', sr', tg, pl) = 7 from hne7)]
    by_cases p4 : ph = 4
    · rw [if_pos (show fr_ph ((nd, ev, ph, rm), (gt, x0, x1, x2), (la, bv, bx, ty), dt, sc', sr', tg, pl) = 4 from p4)]
      rw [if_pos (show fr_ph ((nd, ev, ph, rm), (gt, x0, x1, x2), (la, bv, bx, ty), dt, sc, sr, tg, pl) = 4 from p4)] at Y1
      have ek := hkr p4
      refine ⟨Y1.1, Y1.2.1, e3 p4, ?_⟩
      rw [← ek]
      refine ⟨j1, j2, j3, j4, j5, ?_⟩
      show go k = if sr' = r.length then nI (m_yh r) else nI (y_at r sr') - 1
      by_cases e : sr' = r.length
      · rw [if_pos e]; exact e4 e p4
      · rw [if_neg e]
        rcases e2 with z | z
        · exact z
        · exact absurd z.2.1 e
    · rw [if_neg (show ¬ fr_ph ((nd, ev, ph, rm), (gt, x0, x1, x2), (la, bv, bx, ty), dt, sc', sr', tg, pl) = 4 from p4)]
      have p8 : ph = 8 := by omega
      rw [if_pos (show fr_ph ((nd, ev, ph, rm), (gt, x0, x1, x2), (la, bv, bx, ty), dt, sc', sr', tg, pl) = 8 from p8)]
      have ek := hkY p8
      rw [← ek]
      refine ⟨j1, j2, j3, j4, j5, ?_⟩
      rcases e2 with z | z
      · exact z
      · exact absurd z.1 p4
  have hbvr : ph = 4 → c_bVar (m_yh r) = -1 := by
    intro p4
    rw [if_pos (show fr_ph ((nd, ev, ph, rm), (gt, x0, x1, x2), (la, bv, bx, ty), dt, sc, sr, tg, pl) = 4 from p4)] at Y1
    exact Y1.2.2.1
  have hg4 : sr = r.length → ph = 4 → c_got k = nI (m_yh r) := by
    intro z p4
    rw [if_pos (show fr_ph ((nd, ev, ph, rm), (gt, x0, x1, x2), (la, bv, bx, ty), dt, sc, sr, tg, pl) = 4 from p4)] at Y1
    have z9 : c_got (m_yh r + 1) = if sr = r.length then nI (m_yh r) else nI (y_at r sr) - 1 := Y1.2.2.2.2.2.2.2.2
    rw [if_pos z] at z9
    rw [hkr p4]; exact z9
  have YF0 : yL g c_node c_got c_handle c_pTarget c_pPlace c_act c_mode (upd c_bVar k (-1)) c_pType c_v0 c_v1 c_v2 c_last c_bVal c_pVal (((nd, ev, ph, rm), (gt, x0, x1, x2), (la, bv, bx, ty), dt, sc, sr, tg, pl) :: r) := by
    refine ⟨?_, YrB⟩
    have := YFk (go := c_got) (ha' := c_handle) (bv' := upd c_bVar k (-1)) (bl' := c_bVal) (sc' := sc) (sr' := sr) yE_r hkG (fun p4 => by rw [pk_un (by have := hkr p4; omega)]; exact hbvr p4) hg4
    exact this
  rw [hk1]
  refine br_t rfl ?_
  refine br_f (xx_ne (a := k + 1) (b := 0) (by omega) (by omega) (by decide)) ?_
  rw [show (nI (k + 1) - 1 : Int32) = nI k from nI_pred _]
  refine ⟨vp_in_nI hkle.2 (by decide), ?_⟩
  rw [nI_clamp (by omega), j1]
  refine br_f (by decide) ?_
  refine yy_w (-1) hkle.2 y_m1b ?_
  refine xx_n hkle.2 ?_
  have E116 : m_sf g ty sc = none → wY_search_116 P (nI k) (-1) (nI (gD g)) (nI (gF g)) h_count h_open h_types (nI (k + 1)) ret xt xv xy xp 0 0 1 ((y_z0 oc).1) ((y_z0 oc).2.1) ((y_z0 oc).2.2.1) ((y_z0 oc).2.2.2.1) ((y_z0 oc).2.2.2.2) (nI (sBe s)) (nI (sPr s)) c_sort c_op c_na c_nb c_up c_val c_size c_params c_parent gv (sCe s) (sLo s) gh c_node c_got c_handle c_pTarget c_pPlace c_act c_mode (upd c_bVar k (-1)) c_pType c_v0 c_v1 c_v2 c_last c_bVal c_pVal (sOu s) := by
    intro hmf
    have e0 : m_srch g ((nd, ev, ph, rm), (gt, x0, x1, x2), (la, bv, bx, ty), dt, sc, sr, tg, pl) r s = if gO g nd = 20 then m_dlv r 0 s else (3, dt, none, ty, m_pla nd, ((nd, ev, ph, rm), (gt, x0, x1, x2), (la, bv, bx, ty), dt, sc, sr, tg, pl) :: r, s) := by
      unfold m_srch
      rw [show m_sf g (fr_ty ((nd, ev, ph, rm), (gt, x0, x1, x2), (la, bv, bx, ty), dt, sc, sr, tg, pl)) (fr_sc ((nd, ev, ph, rm), (gt, x0, x1, x2), (la, bv, bx, ty), dt, sc, sr, tg, pl)) = none from hmf]
      rfl
    refine br_f (by decide) ?_
    refine xx_n hkle.2 ?_
    rw [j4]
    refine xx_n hkle.2 ?_
    rw [j2]
    have S167 : wY_search_167 P (nI k) (m_pla nd) (nI (gD g)) (nI (gF g)) h_count h_open h_types (nI (k + 1)) ret xt xv (nI ty) xp 0 0 1 ((y_z0 oc).1) ((y_z0 oc).2.1) ((y_z0 oc).2.2.1) ((y_z0 oc).2.2.2.1) ((y_z0 oc).2.2.2.2) (nI (sBe s)) (nI (sPr s)) c_sort c_op c_na c_nb c_up c_val c_size c_params c_parent gv (sCe s) (sLo s) gh c_node c_got c_handle c_pTarget c_pPlace c_act c_mode (upd c_bVar k (-1)) c_pType c_v0 c_v1 c_v2 c_last c_bVal c_pVal (sOu s) := by
      refine ⟨vp_in_nI hkle.2 (by decide), ?_⟩
      rw [nI_clamp (n := k) (by omega), j5]
      by_cases o : gO g nd = 20
      · rw [if_pos o] at e0 ⊢
        have p4 : ph = 4 := by
          rcases hp with z | z
          · exact z
          · have := op20 z
            omega
        have ek := hkr p4
        refine br_f (by decide) (nm_r (nI_pred k) ?_)
        rw [ek]
        refine y_done (m_yh r) ?_
        refine h _ ?_
        rw [e0]
        exact y_dlv hg (by rw [← ek]; exact YrB)
      · rw [if_neg o] at e0 ⊢
        refine br_t rfl ⟨vp_in_nI hkle.2 (by decide), ?_⟩
        rw [j3]
        refine h _ ?_
        rw [e0]
        exact Or.inl ⟨oc, sBe s, k + 1, ret, -1, dt, nI ty, m_pla nd, 0, 1, gv, gh, _, _, _, _, _, _, _, _, _, _, _, _, _, _, _, hg, fun _ => ⟨hk1.symm, YF0⟩, fun z => (by cases z), fun z => (by cases z), fun z => (by cases z), fun _ => ⟨rfl, rfl, rfl, rfl, fun _ => ⟨rfl, rfl⟩⟩, fun _ => rfl, rfl⟩
    refine fb_if (nI_ltI (b := 336) (by omega) (by decide)) (fun z => ?_) (fun z => ?_)
    · refine ⟨by decide, by decide, ?_⟩
      have e1 : nI nd / 56 = nI (nd / 56) := pk_div (by omega) (by decide) (by decide)
      have e2 : nI nd - nI (nd / 56) * 56 = nI (nd % 56) := by
        rw [← e1]; exact pk_rem (by omega) (by decide) (by decide)
      rw [e1, e2, show (1 : Int32) = nI 1 from rfl, nI_add, show (100 : Int32) = nI 100 from rfl, pk_mul, nI_add]
      have ep : m_pla nd = nI (nd % 56 + 100 * (1 + nd / 56)) := if_neg (by omega)
      rw [← ep]
      exact S167
    · rw [show nI nd - 336 = nI (nd - 336) from pk_sub (b := 336) (by omega)]
      have ep : m_pla nd = nI (nd - 336) := if_pos (by omega)
      rw [← ep]
      exact S167
  have F116 : ∀ q r', (q :: r') <:+ r → fr_ph q = 1 → m_sf g ty sc = some ((r'.length, fr_nd q, fr_ev q), m_ch g r') → wY_search_116 P (nI k) (nI (m_yh r')) (nI (gD g)) (nI (gF g)) h_count h_open h_types (nI (k + 1)) ret xt xv xy xp 0 0 1 ((y_z0 oc).1) ((y_z0 oc).2.1) ((y_z0 oc).2.2.1) ((y_z0 oc).2.2.2.1) ((y_z0 oc).2.2.2.2) (nI (sBe s)) (nI (sPr s)) c_sort c_op c_na c_nb c_up c_val c_size c_params c_parent gv (sCe s) (sLo s) gh c_node c_got c_handle c_pTarget c_pPlace c_act c_mode (upd c_bVar k (-1)) c_pType c_v0 c_v1 c_v2 c_last c_bVal c_pVal (sOu s) := by
    intro q r' q1 q5 hmf
    obtain ⟨b1, b2⟩ := m_sf_some hmf
    have c3 : ((r'.length, fr_nd q, fr_ev q) :: m_ch g r') <:+ m_ch g r := b1.trans s1
    obtain ⟨Q, QW⟩ := w_suf W q1
    obtain ⟨q1a, _, q1b, _, _, _, _, q6, _⟩ := w_link W c3
    have hln := (m_suf_drop q1).2
    have hyq : m_yh (q :: r') ≤ m_yh r := m_yh_suf q1
    have hyq1 : m_yh (q :: r') = m_yh r' + 1 := m_yh_1 (by omega) (by omega)
    have Yq := (yL_suf YrB q1).1
    have Yq' := (yF_A (f := q) (r := r') (by omega) (by omega) (by omega)).mp Yq
    have ycell : c_node (m_yh r') = nI (fr_nd q) ∧ c_act (m_yh r') = nI (fr_ev q) := by
      obtain ⟨⟨nd', ev', ph', rm'⟩, ⟨gt', x0', x1', x2'⟩, ⟨la', bv', bx', ty'⟩, dt', sc', sr', tg', pl'⟩ := q
      exact ⟨Yq'.1, Yq'.2.1⟩
    have hVn := Q.1
    have he := Q.2.1
    have m4 := (G.1 _ hVn).2.2.2.1
    have hopq := ((Yt.1 _ hVn).2.2.1 (by omega)).2
    have hat : y_at r r'.length = m_yh r' := y_at_len q1
    have e0 : m_srch g ((nd, ev, ph, rm), (gt, x0, x1, x2), (la, bv, bx, ty), dt, sc, sr, tg, pl) r s = if gO g (fr_nd q) = 17 then (3, dt, some r'.length, 0, 0, ((nd, ev, ph, rm), (gt, x0, x1, x2), (la, bv, bx, ty), dt, sc, sr, tg, pl) :: r, s)
        else if gF g ≤ sBe s then (6, 0, none, 0, 0, ((nd, ev, ph, rm), (gt, x0, x1, x2), (la, bv, bx, ty), dt, m_ch g r', r'.length, tg, pl) :: r, s)
        else m_ev g ((gK g (fr_nd q)).getD 0 0) (fr_ev q) (((fr_nd q, fr_ev q, 7, []), (0, 0, 0, 0), (0, m_cv g (fr_nd q), dt, 0), 0, m_ch g r', 0, none, 0) :: ((nd, ev, ph, rm), (gt, x0, x1, x2), (la, bv, bx, ty), dt, m_ch g r', r'.length, tg, pl) :: r) (m_cs g (fr_nd q) (fr_ev q) dt (s_be s (sBe s + 1))) := by
      unfold m_srch
      rw [show m_sf g (fr_ty ((nd, ev, ph, rm), (gt, x0, x1, x2), (la, bv, bx, ty), dt, sc, sr, tg, pl)) (fr_sc ((nd, ev, ph, rm), (gt, x0, x1, x2), (la, bv, bx, ty), dt, sc, sr, tg, pl)) = some ((r'.length, fr_nd q, fr_ev q), m_ch g r') from hmf]
      rfl
    refine br_t (nI_pos' (by omega)) ⟨vp_in_nI (by omega) (by decide), ?_⟩
    rw [nI_clamp (n := m_yh r') (by omega), ycell.1]
    refine ⟨vp_in_nI m4 (by decide), ?_⟩
    rw [nI_clamp (n := fr_nd q) (by omega), hopq]
    refine fb_if (nI_eq (b := 17) (by omega) (by decide)) (fun o => ?_) (fun o => ?_)
    · rw [if_pos o] at e0
      refine ⟨vp_in_nI hkle.2 (by decide), ?_⟩
      rw [nI_clamp (n := k) (by omega), j3]
      refine h _ ?_
      rw [e0]
      refine Or.inl ⟨oc, sBe s, k + 1, ret, nI (m_yh r'), dt, xy, xp, 0, 1, gv, gh, _, _, _, _, _, _, _, _, _, _, _, _, _, _, _, hg, fun _ => ⟨hk1.symm, YF0⟩, fun z => (by cases z), fun z => (by cases z), fun z => (by cases z), fun _ => ⟨rfl, rfl, rfl, ?_, fun z => (by cases z)⟩, fun _ => rfl, rfl⟩
      show nI (m_yh r') = nI (y_at (((nd, ev, ph, rm), (gt, x0, x1, x2), (la, bv, bx, ty), dt, sc, sr, tg, pl) :: r) r'.length)
      rw [y_at_len (q1.trans (List.suffix_cons _ _))]
    · rw [if_neg o] at e0
      have hO16 : gO g (fr_nd q) = 16 := by omega
      refine y_beat hs.1 hF (fun w => ?_) (fun w => ?_)
      · rw [if_neg (by omega)] at e0
        obtain ⟨cl1, cl2, cl3⟩ := w_cl G hVn (by omega) (by omega)
        have Fs := w_srFs (h := r'.length) (t := m_ch g r') (n := fr_nd q) (e := fr_ev q) hp F W c3 q1 rfl q5 rfl
        have F7' : w_f g V Z pa 1 ((fr_nd q, fr_ev q, 7, []), (0, 0, 0, 0), (0, m_cv g (fr_nd q), dt, 0), 0, m_ch g r', 0, none, 0) (((nd, ev, ph, rm), (gt, x0, x1, x2), (la, bv, bx, ty), dt, m_ch g r', r'.length, tg, pl) :: r) := w_srF7 (sc := sc) (sr := sr) G hp q1 rfl rfl Q hO16
        have Iq := w_srI G F hp c3 hO16
        have hw12 := (G.1 _ hVn).2.2.2.2.2.2.2.2.2.1 (by omega) (by omega)
        have hnb := (Yt.1 _ hVn).2.2.2.2 (by omega) (by omega)
        have hyl : m_yh (((fr_nd q, fr_ev q, 7, []), (0, 0, 0, 0), (0, m_cv g (fr_nd q), dt, 0), 0, m_ch g r', 0, none, 0) :: ((nd, ev, ph, rm), (gt, x0, x1, x2), (la, bv, bx, ty), dt, m_ch g r', r'.length, tg, pl) :: r) = k + 1 := hk1
        refine br_f (by decide) ?_
        refine yy_w (nI (m_yh r') - 1) hkle.2 (y_sm1 (by omega)) ?_
        refine yy_w (nI (m_yh r')) hkle.2 (fb_short (by omega)) ?_
        refine ⟨vp_in_nI hkle.2 (by decide), ?_⟩
        rw [nI_clamp (n := k) (by omega), j3]
        have gl1 := m_cs_gl (g := g) (n := fr_nd q) (e := fr_ev q) (v := dt) (s := s_be s (sBe s + 1))
        have sbe : sBe (m_cs g (fr_nd q) (fr_ev q) dt (s_be s (sBe s + 1))) = sBe s + 1 := gl1.2
        have EVAL : ∀ (bv' bl' : Nat → Int32) (s' : St), s' = m_cs g (fr_nd q) (fr_ev q) dt (s_be s (sBe s + 1)) → yE k bv' (upd c_bVar k (-1)) → yE k bl' c_bVal → bv' k = y_bv (m_cv g (fr_nd q)) → (m_cv g (fr_nd q) ≠ 0 → bl' k = dt) → wpY_evaluate P (yU g h_count h_open h_types c_sort c_op c_na c_nb c_up c_val c_size c_params c_parent (y_z0 oc) 1 (sBe s + 1) s' (k + 1) ret xt xv xy xp 0 0 gv gh c_node (upd c_got k (nI (m_yh r') - 1)) (upd c_handle k (nI (m_yh r'))) c_pTarget c_pPlace c_act c_mode (bv') c_pType c_v0 c_v1 c_v2 c_last (bl') c_pVal) (nI ((gK g (fr_nd q)).getD 0 0)) (nI (fr_ev q)) := by
          intro bv' bl' s' hs' e1 e2 e3 e4
          subst hs'
          have := y_ev (P := P) (oc := oc) (ret := ret) (xt := xt) (xv := xv) (xy := xy) (xp := xp) (gv := gv) (gh := gh) (c_node := c_node) (c_got := upd c_got k (nI (m_yh r') - 1)) (c_handle := upd c_handle k (nI (m_yh r'))) (c_pTarget := c_pTarget) (c_pPlace := c_pPlace) (c_act := c_act) (c_mode := c_mode) (c_bVar := bv') (c_pType := c_pType) (c_v0 := c_v0) (c_v1 := c_v1) (c_v2 := c_v2) (c_last := c_last) (c_bVal := bl') (c_pVal := c_pVal) (l := ((fr_nd q, fr_ev q, 7, []), (0, 0, 0, 0), (0, m_cv g (fr_nd q), dt, 0), 0, m_ch g r', 0, none, 0) :: ((nd, ev, ph, rm), (gt, x0, x1, x2), (la, bv, bx, ty), dt, m_ch g r', r'.length, tg, pl) :: r) (s := m_cs g (fr_nd q) (fr_ev q) dt (s_be s (sBe s + 1))) G Yt cl1 he ⟨F7', Fs, W⟩ (fun q r' e => by injection e with e _; rw [← e]; exact ⟨by show (7 : Nat) ≠ 4; decide, by show (7 : Nat) ≠ 8; decide⟩) Iq (by rw [sbe]; omega) (by rw [gl1.1]; exact hg) ⟨?_, ?_, ?_⟩ (fun u' hu => h u' (by rw [e0]; exact hu))
          · rw [sbe, hyl] at this
            exact this
          · show bv' (m_yh (((nd, ev, ph, rm), (gt, x0, x1, x2), (la, bv, bx, ty), dt, m_ch g r', r'.length, tg, pl) :: r) - 1) = y_bv (m_cv g (fr_nd q)) ∧ (m_cv g (fr_nd q) ≠ 0 → bl' (m_yh (((nd, ev, ph, rm), (gt, x0, x1, x2), (la, bv, bx, ty), dt, m_ch g r', r'.length, tg, pl) :: r) - 1) = dt) ∧ ∀ q2 r2, ((nd, ev, ph, rm), (gt, x0, x1, x2), (la, bv, bx, ty), dt, m_ch g r', r'.length, tg, pl) :: r = q2 :: r2 → upd c_handle k (nI (m_yh r')) (m_yh (((nd, ev, ph, rm), (gt, x0, x1, x2), (la, bv, bx, ty), dt, m_ch g r', r'.length, tg, pl) :: r) - 1) = nI (y_at r2 (fr_sr q2))
            have ekk : m_yh (((nd, ev, ph, rm), (gt, x0, x1, x2), (la, bv, bx, ty), dt, m_ch g r', r'.length, tg, pl) :: r) - 1 = k := by
              have : m_yh (((nd, ev, ph, rm), (gt, x0, x1, x2), (la, bv, bx, ty), dt, m_ch g r', r'.length, tg, pl) :: r) = k + 1 := hk1
              omega
            rw [ekk]
            refine ⟨e3, e4, fun q2 r2 e => ?_⟩
            injection e with ea eb
            rw [← ea, ← eb, pk_us]
            show nI (m_yh r') = nI (y_at r r'.length)
            rw [hat]
          · refine YFk (yE_u yE_r (Nat.le_refl _)) (Or.inl ?_) (fun p4 => ?_) (fun z => by omega)
            · rw [pk_us, hat]
            · rw [e1 _ (by have := hkr p4; omega), pk_un (by have := hkr p4; omega)]
              exact hbvr p4
          · exact yL_keep W YrB yE_r (yE_u yE_r hkle.1) (yE_u yE_r hkle.1) yE_r yE_r yE_r yE_r (yE_le e1 hkle.1) yE_r yE_r yE_r yE_r yE_r (yE_le e2 hkle.1) yE_r
        have hle1 : 1 ≤ (gK g (fr_nd q)).length := fo_lst (G.1 _ hVn) (by omega) (by rw [hO16]; rfl)
        refine ⟨vp_in_nI (by omega) (by decide), ?_⟩
        rw [nI_clamp (n := m_yh r') (by omega), ycell.1]
        refine ⟨vp_in_nI m4 (by decide), ?_⟩
        rw [nI_clamp (n := fr_nd q) (by omega), hnb]
        refine nm_e ?_
        by_cases b8 : gB g (fr_nd q) < 8
        · refine br_f (nI_ge (b := 8) b8 (by decide)) ⟨vp_in_nI (by omega) (by decide), ?_⟩
          rw [ycell.2]
          have ei : 8 * nI (fr_ev q) + nI (gB g (fr_nd q)) = nI (8 * fr_ev q + gB g (fr_nd q)) := by
            rw [show (8 : Int32) = nI 8 from rfl, pk_mul, nI_add]
          rw [ei]
          refine ⟨vp_in_nI (by omega) (by decide), ?_⟩
          rw [nI_clamp (n := 8 * fr_ev q + gB g (fr_nd q)) (by omega)]
          refine nm_e ⟨vp_in_nI (by omega) (by decide), ?_⟩
          rw [ycell.1]
          refine Yt.2.2.1 _ hVn 0 (by decide) _ _ _ _ _ _ _ _ _ _ _ _ _ _ _ _ _ _ _ _ _ _ _ _ _ _ _ _ _ _ _ _ _ _ _ _ _ _ _ ?_
          refine ⟨vp_in_nI (by omega) (by decide), ?_⟩
          rw [fo_nx_g (by omega), ycell.2]
          have ecv : m_cv g (fr_nd q) = 0 := if_pos b8
          have ecs : m_cs g (fr_nd q) (fr_ev q) dt (s_be s (sBe s + 1)) = s_lo (s_be s (sBe s + 1)) (upd (sLo s) (8 * fr_ev q + gB g (fr_nd q)) dt) := if_pos b8
          exact EVAL (upd c_bVar k (-1)) c_bVal (s_lo (s_be s (sBe s + 1)) (upd (sLo s) (8 * fr_ev q + gB g (fr_nd q)) dt)) ecs.symm yE_r yE_r (by rw [pk_us, ecv]; rfl) (fun z => absurd ecv z)
        · refine br_t (nI_le (a := 8) (by omega) (by omega)) ?_
          refine yy_w (nI (gB g (fr_nd q))) hkle.2 (fb_byte (by omega)) ?_
          refine yy_w dt hkle.2 rfl ?_
          refine ⟨vp_in_nI (by omega) (by decide), ?_⟩
          rw [ycell.1]
          refine Yt.2.2.1 _ hVn 0 (by decide) _ _ _ _ _ _ _ _ _ _ _ _ _ _ _ _ _ _ _ _ _ _ _ _ _ _ _ _ _ _ _ _ _ _ _ _ _ _ _ ?_
          refine ⟨vp_in_nI (by omega) (by decide), ?_⟩
          rw [fo_nx_g (by omega), ycell.2]
          have ecv : m_cv g (fr_nd q) = gB g (fr_nd q) := if_neg b8
          have ecs : m_cs g (fr_nd q) (fr_ev q) dt (s_be s (sBe s + 1)) = s_be s (sBe s + 1) := if_neg b8
          refine EVAL (upd (upd c_bVar k (-1)) k (nI (gB g (fr_nd q)))) (upd c_bVal k dt) (s_be s (sBe s + 1)) ecs.symm (yE_u yE_r (Nat.le_refl _)) (yE_u yE_r (Nat.le_refl _)) ?_ (fun _ => pk_us)
          rw [pk_us, ecv]
          unfold y_bv
          rw [if_neg (by omega)]
      · rw [if_pos w] at e0
        refine br_t rfl ?_
        refine h _ ?_
        rw [e0]
        exact Or.inl ⟨oc, sBe s, k + 1, ret, xt, xv, xy, xp, 0, 0, gv, gh, c_node, c_got, c_handle, c_pTarget, c_pPlace, c_act, c_mode, upd c_bVar k (-1), c_pType, c_v0, c_v1, c_v2, c_last, c_bVal, c_pVal, hg, fun z => absurd z (by show ¬ 6 < 4; decide), fun z => (by cases z), fun z => (by cases z), fun z => (by cases z), fun z => (by cases z), fun _ => rfl, rfl⟩
  have hsufd : r.drop (r.length - sr) <:+ r := List.drop_suffix _ _
  have hyd := m_yh_suf hsufd
  have MAIN : ∀ n, m_yh (r.drop (r.length - sr)) < n → wY_search_19 P (nI k) (nI (gD g)) (nI (gF g)) h_count h_open h_types (nI (k + 1)) ret xt xv xy xp 0 0 1 ((y_z0 oc).1) ((y_z0 oc).2.1) ((y_z0 oc).2.2.1) ((y_z0 oc).2.2.2.1) ((y_z0 oc).2.2.2.2) (nI (sBe s)) (nI (sPr s)) c_sort c_op c_na c_nb c_up c_val c_size c_params c_parent gv (sCe s) (sLo s) gh c_node c_got c_handle c_pTarget c_pPlace c_act c_mode (upd c_bVar k (-1)) c_pType c_v0 c_v1 c_v2 c_last c_bVal c_pVal (sOu s) n (nI (y_at r sr) - 1) := by
    intro n hn
    exact y_sl G Yt k ty hkle.2 s5 j2 (r.drop (r.length - sr)).length (r.drop (r.length - sr)) 1 (Nat.le_refl _) (w_l_suf W hsufd) hsufd s6 (yL_suf YrB hsufd) (by omega) (by rw [s3]; exact E116) (by rw [s3]; exact F116) n hn
  refine ⟨m_yh r + 2, ?_⟩
  rcases hkG with z | ⟨p4, z2, z3⟩
  · rw [z]
    exact MAIN _ (by omega)
  · rw [z3, wY_search_19]
    rw [if_pos (show fr_ph ((nd, ev, ph, rm), (gt, x0, x1, x2), (la, bv, bx, ty), dt, sc, sr, tg, pl) = 4 from p4)] at Y1
    have hnode : c_node (m_yh r) = nI nd := Y1.1
    obtain ⟨o1, o2, o3, o4⟩ := op1617 p4
    have hop := ((Yt.1 nd f1).2.2.1 o1).2
    refine br_f (nI_pos (by omega)) ⟨vp_in_nI (by omega) (by decide), ?_⟩
    rw [nI_clamp (n := m_yh r) (by omega), hnode]
    refine br_t (nI_pos' (by omega)) ⟨vp_in_nI (by omega) (by decide), vp_in_nI n4 (by decide), ?_⟩
    rw [nI_clamp (n := nd) (by omega), hop]
    refine br_f (xx_ne (b := 16) o2 (by omega) (by decide)) ⟨vp_in_nI (by omega) (by decide), vp_in_nI n4 (by decide), ?_⟩
    refine br_f (xx_ne (b := 17) o3 (by omega) (by decide)) (nm_r (fo_m1 _) ?_)
    have := MAIN (m_yh r + 1) (by omega)
    have e : y_at r sr = m_yh r := by
      unfold y_at
      rw [z2, Nat.sub_self]; rfl
    rw [e] at this
    exact this
end
end
section
/-! the reference's side: an exit's step, every step, the run -/
section
variable {g : mG} {V : Nat → Prop} {Z : Nat → Nat} {pa : Nat → Option Nat} {T : Nat} {h_count h_open h_types : Int32} {c_sort c_op c_na c_nb c_up c_val c_size c_params c_parent : Nat → Int32} {s : St} {oc ret xt xv xy xp ha exi v : Int32} {be : Nat} {gv gh : Nat → Int32} {c_node c_got c_handle c_pTarget c_pPlace c_act c_mode c_bVar c_pType c_v0 c_v1 c_v2 c_last c_bVal c_pVal : Nat → Int32} {l r : List Fr} {f : Fr} {P : SY → Prop} {post : Int32 → SY → Prop} {N i p q : Nat}
theorem y_tg_r {tgt : Option Nat} {f : Fr} {r : List Fr} (h : w_tg g tgt r) : y_tg tgt (f :: r) = y_tg tgt r := by
  cases tgt with
  | none => rfl
  | some k =>
    obtain ⟨q, r', a1, a2, _⟩ := h k rfl
    show nI (y_at (f :: r) k) = nI (y_at r k)
    rw [← a2, y_at_len a1, y_at_len (a1.trans (List.suffix_cons _ _))]
theorem y_tg_ne {tgt : Option Nat} {r : List Fr} (h : w_tg g tgt r) (j : Nat) (hj : m_yh r ≤ j) (h5 : j < 1000) : ¬ nI j = y_tg tgt r := by
  cases tgt with
  | none =>
    intro z
    have : (0 : Int32) ≤ -1 := by
      show (0 : Int32) ≤ y_tg none r
      rw [← z]; exact nI_pos' (by omega)
    exact absurd this (by decide)
  | some k =>
    obtain ⟨q, r', a1, a2, a3, _⟩ := h k rfl
    have e : y_tg (some k) r = nI (m_yh r') := by
      show nI (y_at r k) = _
      rw [← a2, y_at_len a1]
    rw [e]
    have := m_yh_suf a1
    have h1 : m_yh (q :: r') = m_yh r' + 1 := m_yh_1 (by omega) (by omega)
    exact xx_ne (by omega) (by omega) (by omega)
theorem y_tg_s {tgt : Option Nat} {r : List Fr} (h : w_tg g tgt r) (h5 : m_yh r ≤ 520) : vp_nar .short ((y_tg tgt r).toInt16.toInt32) = y_tg tgt r := by
  cases tgt with
  | none => exact y_m1s
  | some k =>
    obtain ⟨q, r', a1, a2, a3, _⟩ := h k rfl
    have e : y_tg (some k) r = nI (m_yh r') := by
      show nI (y_at r k) = _
      rw [← a2, y_at_len a1]
    rw [e]
    have := m_yh_suf a1
    have h1 : m_yh (q :: r') = m_yh r' + 1 := m_yh_1 (by omega) (by omega)
    exact fb_short (by omega)
theorem w_op4 {f : Fr} {w : Nat} (h : w_lk g w f) (hp : fr_ph f = 4) : gO g (fr_nd f) ≤ 26 ∧ gO g (fr_nd f) ≠ 15 := by
  obtain ⟨⟨nd, ev, ph, rm⟩, ⟨gt, x0, x1, x2⟩, ⟨la, bv, bx, ty⟩, dt, sc, sr, tg, pl⟩ := f
  have hp : ph = 4 := hp
  show gO g nd ≤ 26 ∧ gO g nd ≠ 15
  rcases h with h | h | h | h | h | h | h | h | h | h <;> omega
theorem w_lk_01 {f : Fr} (h : w_lk g 0 f) (hp : fr_ph f = 4) : w_lk g 1 f := by
  obtain ⟨⟨nd, ev, ph, rm⟩, ⟨gt, x0, x1, x2⟩, ⟨la, bv, bx, ty⟩, dt, sc, sr, tg, pl⟩ := f
  have hp : ph = 4 := hp
  rcases h with h | h | h | h | h | h | h | h | h | h
  · omega
  · omega
  · omega
  · omega
  · omega
  · exact Or.inr (Or.inr (Or.inr (Or.inr (Or.inr (Or.inl h)))))
  all_goals omega
theorem y_leaveR (G : g_w g V Z pa T) (Yt : yT g V h_count h_open h_types c_sort c_op c_na c_nb c_up c_val c_size c_params c_parent) {nd ev ph gt bv ty sr : Nat} {rm : List Nat} {x0 x1 x2 la bx dt pl : Int32} {sc : List (Nat × Nat × Nat)} {tg : Option Nat} {tgt : Option Nat} {t : Nat} {pp : Int32} (FW : w_l g V Z pa 1 (((nd, ev, ph, rm), (gt, x0, x1, x2), (la, bv, bx, ty), dt, sc, sr, tg, pl) :: r) ∨ w_l g V Z pa 0 (((nd, ev, ph, rm), (gt, x0, x1, x2), (la, bv, bx, ty), dt, sc, sr, tg, pl) :: r) ∧ (gO g nd = 12 ∨ gO g nd = 14 ∨ gO g nd = 19)) (ht : w_tg g tgt (((nd, ev, ph, rm), (gt, x0, x1, x2), (la, bv, bx, ty), dt, sc, sr, tg, pl) :: r)) (hq : w_tp tgt t pp) (hs : w_s g s) (hg : yGl gv gh (sGl s)) (Y : yL g c_node c_got c_handle c_pTarget c_pPlace c_act c_mode c_bVar c_pType c_v0 c_v1 c_v2 c_last c_bVal c_pVal (((nd, ev, ph, rm), (gt, x0, x1, x2), (la, bv, bx, ty), dt, sc, sr, tg, pl) :: r)) (hh : tgt = none → xy = nI t ∧ xp = pp) (hi : i + 2 < 1000000) (H : ∀ p q, p + q = 2 → ∀ u', py_R g h_count h_open h_types c_sort c_op c_na c_nb c_up c_val c_size c_params c_parent (m_exit g v tgt t pp ((nd, ev, ph, rm), (gt, x0, x1, x2), (la, bv, bx, ty), dt, sc, sr, tg, pl) r s) u' → yR post (N + p) (i + q) u') : yR post (N + 2) i (yU g h_count h_open h_types c_sort c_op c_na c_nb c_up c_val c_size c_params c_parent (y_z0 oc) 1 (sBe s) s (m_yh (((nd, ev, ph, rm), (gt, x0, x1, x2), (la, bv, bx, ty), dt, sc, sr, tg, pl) :: r)) ret (y_tg tgt (((nd, ev, ph, rm), (gt, x0, x1, x2), (la, bv, bx, ty), dt, sc, sr, tg, pl) :: r)) v xy xp 0 1 gv gh c_node c_got c_handle c_pTarget c_pPlace c_act c_mode c_bVar c_pType c_v0 c_v1 c_v2 c_last c_bVal c_pVal) := by
  have W : w_l g V Z pa 1 r := by
    rcases FW with z | z
    · exact z.2
    · exact z.1.2
  have f1 : V nd := by
    rcases FW with z | z
    · exact z.1.1
    · exact z.1.1.1
  have f2 : ev ≤ 5 := by
    rcases FW with z | z
    · exact z.1.2.1
    · exact z.1.1.2.1
  have f4 : w_bd g ((nd, ev, ph, rm), (gt, x0, x1, x2), (la, bv, bx, ty), dt, sc, sr, tg, pl) := by
    rcases FW with z | z
    · exact z.1.2.2.2.1
    · exact z.1.1.2.2.2.1
  have f9 : ph ≠ 7 → w_iq g Z nd r := by
    rcases FW with z | z
    · exact z.1.2.2.2.2.2.2.2.2.1
    · exact z.1.1.2.2.2.2.2.2.2.2.1
  have n4 := (G.1 nd f1).2.2.2.1
  have n2 := (G.1 nd f1).2.1
  have e0 : m_exit g v tgt t pp ((nd, ev, ph, rm), (gt, x0, x1, x2), (la, bv, bx, ty), dt, sc, sr, tg, pl) r s = if tgt = some r.length then
      (if gO g nd = 17 ∨ gO g nd = 18 then m_ev g ((gK g nd).getD 0 0) ev (((nd, ev, 5, []), (0, x0, x1, x2), (la, m_cv g nd, v, ty), dt, sc, sr, tg, pl) :: r) (m_cs g nd ev v s)
      else m_dlv r v s)
    else if ph = 0 ∧ gO g nd = 15 then (0, 0, none, 0, 0, ((nd, ev, 3, rm), (1, x0, x1, x2), (la, bv, bx, t), v, sc, sr, tgt, pp) :: r, s)
    else (3, v, tgt, t, pp, r, s) := rfl
  have hm : m_yh (((nd, ev, ph, rm), (gt, x0, x1, x2), (la, bv, bx, ty), dt, sc, sr, tg, pl) :: r) = m_yh r + (if ph = 7 then 0 else if ph = 4 then 2 else 1) := rfl
  have Yr := Y.2
  have Y1 := Y.1
  have REST : tgt ≠ some r.length → ¬ (ph = 0 ∧ gO g nd = 15) → ∀ p q, p + q = 2 → yR post (N + p) (i + q) (yU g h_count h_open h_types c_sort c_op c_na c_nb c_up c_val c_size c_params c_parent (y_z0 oc) 1 (sBe s) s (m_yh r) ret (y_tg tgt (((nd, ev, ph, rm), (gt, x0, x1, x2), (la, bv, bx, ty), dt, sc, sr, tg, pl) :: r)) v xy xp 0 1 gv gh c_node c_got c_handle c_pTarget c_pPlace c_act c_mode c_bVar c_pType c_v0 c_v1 c_v2 c_last c_bVal c_pVal) := by
    intro z1 z2 p q hpq
    rw [e0, if_neg z1, if_neg z2] at H
    have htr := w_tg_r ht z1
    refine H p q hpq _ ⟨oc, sBe s, m_yh r, ret, y_tg tgt (((nd, ev, ph, rm), (gt, x0, x1, x2), (la, bv, bx, ty), dt, sc, sr, tg, pl) :: r), v, xy, xp, 0, 1, gv, gh, c_node, c_got, c_handle, c_pTarget, c_pPlace, c_act, c_mode, c_bVar, c_pType, c_v0, c_v1, c_v2, c_last, c_bVal, c_pVal, hg, fun _ => ⟨rfl, Yr⟩, fun z => (by cases z), fun z => (by cases z), fun z => (by cases z), fun _ => ⟨rfl, rfl, rfl, y_tg_r htr, hh⟩, fun _ => rfl, rfl⟩
  have NT : ph ≠ 1 → tgt ≠ some r.length := by
    intro z1 z2
    subst z2
    exact z1 (w_tg_t ht).1
  by_cases p7 : ph = 7
  · rw [if_pos p7] at hm
    have := REST (NT (by omega)) (by omega) 2 0 rfl
    rw [hm, Nat.add_zero]
    exact this
  · have h5 : m_yh r ≤ 518 := y_len (f9 p7) n2
    rw [if_neg p7] at hm
    by_cases p4 : ph = 4
    · have z1 := NT (by omega)
      have htr := w_tg_r ht z1
      have op := w_op4 (w := 1) (f := ((nd, ev, ph, rm), (gt, x0, x1, x2), (la, bv, bx, ty), dt, sc, sr, tg, pl)) (by
        rcases FW with z | z
        · exact z.1.2.2.1
        · have := z.1.1.2.2.1
          exact w_lk_01 this p4) p4
      have op : gO g nd ≤ 26 ∧ gO g nd ≠ 15 := op
      have hop := ((Yt.1 nd f1).2.2.1 op.1).2
      unfold yF at Y1
      rw [if_neg (show ¬ fr_ph ((nd, ev, ph, rm), (gt, x0, x1, x2), (la, bv, bx, ty), dt, sc, sr, tg, pl) = 7 from p7), if_pos (show fr_ph ((nd, ev, ph, rm), (gt, x0, x1, x2), (la, bv, bx, ty), dt, sc, sr, tg, pl) = 4 from p4)] at Y1
      rw [if_pos p4] at hm
      rw [hm]
      have et : y_tg tgt (((nd, ev, ph, rm), (gt, x0, x1, x2), (la, bv, bx, ty), dt, sc, sr, tg, pl) :: r) = y_tg tgt r := y_tg_r htr
      refine y_go (by omega) (show ¬ (1 : Int32) = 0 by decide) ?_
      refine br_f (by decide) ?_
      refine nm_r (nI_pred (m_yh r + 1)) ?_
      refine br_t (nI_pos' (by omega)) (br_f (by rw [et]; exact y_tg_ne htr _ (by omega) (by omega)) ⟨vp_in_nI (by omega) (by decide), ?_⟩)
      rw [nI_clamp (by omega), Y1.2.2.2.1]
      refine br_t (by decide) (nm_r (nI_pred (m_yh r + 1)) ?_)
      show yR post (N + 1) (i + 1) (yU g h_count h_open h_types c_sort c_op c_na c_nb c_up c_val c_size c_params c_parent (y_z0 oc) 1 (sBe s) s (m_yh r + 1) ret (y_tg tgt (((nd, ev, ph, rm), (gt, x0, x1, x2), (la, bv, bx, ty), dt, sc, sr, tg, pl) :: r)) v xy xp 0 1 gv gh c_node c_got c_handle c_pTarget c_pPlace c_act c_mode c_bVar c_pType c_v0 c_v1 c_v2 c_last c_bVal c_pVal)
      refine y_go (by omega) (show ¬ (1 : Int32) = 0 by decide) ?_
      refine br_f (by decide) ?_
      refine nm_r (nI_pred (m_yh r)) ?_
      refine br_t (nI_pos' (by omega)) (br_f (by rw [et]; exact y_tg_ne htr _ (by omega) (by omega)) ⟨vp_in_nI (by omega) (by decide), ?_⟩)
      rw [nI_clamp (by omega), show c_node (m_yh r) = nI nd from Y1.1]
      refine br_f (y_nneg n4) ⟨vp_in_nI (by omega) (by decide), vp_in_nI n4 (by decide), ?_⟩
      rw [nI_clamp (n := nd) (by omega), hop]
      refine br_f (xx_ne (b := 15) op.2 (by omega) (by decide)) (nm_r (nI_pred (m_yh r)) ?_)
      exact REST z1 (by omega) 0 2 rfl
    · rw [if_neg p4] at hm
      rw [hm]
      by_cases p8 : ph = 8
      · have z1 := NT (by omega)
        have htr := w_tg_r ht z1
        have et : y_tg tgt (((nd, ev, ph, rm), (gt, x0, x1, x2), (la, bv, bx, ty), dt, sc, sr, tg, pl) :: r) = y_tg tgt r := y_tg_r htr
        unfold yF at Y1
        rw [if_neg (show ¬ fr_ph ((nd, ev, ph, rm), (gt, x0, x1, x2), (la, bv, bx, ty), dt, sc, sr, tg, pl) = 7 from p7), if_neg (show ¬ fr_ph ((nd, ev, ph, rm), (gt, x0, x1, x2), (la, bv, bx, ty), dt, sc, sr, tg, pl) = 4 from p4), if_pos (show fr_ph ((nd, ev, ph, rm), (gt, x0, x1, x2), (la, bv, bx, ty), dt, sc, sr, tg, pl) = 8 from p8)] at Y1
        refine y_go (by omega) (show ¬ (1 : Int32) = 0 by decide) ?_
        refine br_f (by decide) ?_
        refine nm_r (nI_pred (m_yh r)) ?_
        refine br_t (nI_pos' (by omega)) (br_f (by rw [et]; exact y_tg_ne htr _ (by omega) (by omega)) ⟨vp_in_nI (by omega) (by decide), ?_⟩)
        rw [nI_clamp (by omega), Y1.1]
        refine br_t (by decide) (nm_r (nI_pred (m_yh r)) ?_)
        exact REST z1 (by omega) 1 1 rfl
      · have YA := (yF_A (f := ((nd, ev, ph, rm), (gt, x0, x1, x2), (la, bv, bx, ty), dt, sc, sr, tg, pl)) p7 p4 p8).mp Y1
        have hO : gO g nd ≤ 26 := by
          rcases FW with z | z
          · exact w_lsO z.1.2.2.1 p8
          · exact w_lsO z.1.1.2.2.1 p8
        have hop := ((Yt.1 nd f1).2.2.1 hO).2
        have hk : m_yh r < 520 := by omega
        have b1 := YA.1
        have b2 := YA.2.1
        have b3 := YA.2.2.1
        have b5 := YA.2.2.2.2.1
        clear YA Y1
        refine y_go (by omega) (show ¬ (1 : Int32) = 0 by decide) ?_
        refine br_f (by decide) ?_
        refine nm_r (nI_pred (m_yh r)) ?_
        refine br_t (nI_pos' (by omega)) ?_
        by_cases ha : tgt = some r.length
        · rw [e0, if_pos ha] at H
          subst ha
          obtain ⟨t1, t2⟩ := w_tg_t ht
          have t1 : ph = 1 := t1
          have t2 : gO g nd = 11 ∨ gO g nd = 13 ∨ gO g nd = 17 ∨ gO g nd = 18 := t2
          subst t1
          have et : y_tg (some r.length) (((nd, ev, 1, rm), (gt, x0, x1, x2), (la, bv, bx, ty), dt, sc, sr, tg, pl) :: r) = nI (m_yh r) := by
            show nI (y_at (((nd, ev, 1, rm), (gt, x0, x1, x2), (la, bv, bx, ty), dt, sc, sr, tg, pl) :: r) r.length) = _
            rw [y_at_len (List.suffix_refl _)]
          refine br_t et.symm ⟨vp_in_nI hk (by decide), ?_⟩
          rw [nI_clamp (n := m_yh r) (by omega), b1]
          refine xx_n n4 ?_
          rw [hop]
          have SET : ∀ {u}, yQ g V h_count h_open h_types c_sort c_op c_na c_nb c_up c_val c_size c_params c_parent (if gO g nd = 17 ∨ gO g nd = 18 then m_ev g ((gK g nd).getD 0 0) ev (((nd, ev, 5, []), (0, x0, x1, x2), (la, m_cv g nd, v, ty), dt, sc, sr, tg, pl) :: r) (m_cs g nd ev v s) else m_dlv r v s) u → yR post (N + 1) (i + 1) u := fun hu => y_settle G Yt hi hu H
          by_cases o11 : gO g nd = 11
          · refine br_t (by rw [o11]; rfl) ?_
            refine y_done (m_yh r) ?_
            refine SET ?_
            rw [if_neg (by omega)]
            exact y_dlv hg Yr
          refine br_f (xx_ne (b := 11) o11 (by omega) (by decide)) ?_
          by_cases o13 : gO g nd = 13
          · refine br_t (by rw [o13]; rfl) ?_
            refine y_done (m_yh r) ?_
            refine SET ?_
            rw [if_neg (by omega)]
            exact y_dlv hg Yr
          refine br_f (xx_ne (b := 13) o13 (by omega) (by decide)) ?_
          have o17 : gO g nd = 17 ∨ gO g nd = 18 := by
            rcases t2 with z | z | z | z
            · exact absurd z o11
            · exact absurd z o13
            · exact Or.inl z
            · exact Or.inr z
          have o17a : 16 ≤ gO g nd := by rcases o17 with z | z <;> rw [z] <;> decide
          have o17b : gO g nd ≤ 18 := by rcases o17 with z | z <;> rw [z] <;> decide
          rw [if_pos o17] at SET
          have hb : bv = 0 := by
            rcases f4 with z | ⟨_, _, z⟩
            · exact z
            · rcases z with ⟨_, z⟩ | z | z
              · have z : gO g nd = 9 := z
                omega
              · cases z
              · cases z
          subst hb
          have F1 : w_f g V Z pa 1 ((nd, ev, 1, rm), (gt, x0, x1, x2), (la, 0, bx, ty), dt, sc, sr, tg, pl) r := by
            rcases FW with z | ⟨_, z⟩
            · exact z.1
            · omega
          obtain ⟨cl1, cl2, cl3⟩ := w_cl G f1 o17a o17b
          have hnb := (Yt.1 nd f1).2.2.2.2 o17a o17b
          have hw12 := (G.1 nd f1).2.2.2.2.2.2.2.2.2.1 o17a o17b
          have hle1 : 1 ≤ (gK g nd).length := fo_lst (G.1 nd f1) (by omega) (by unfold fo_least; rw [if_neg (by omega), if_neg (by omega), if_neg (by omega)])
          have gl1 := m_cs_gl (g := g) (n := nd) (e := ev) (v := v) (s := s)
          have F5 : w_f g V Z pa 1 ((nd, ev, 5, []), (0, x0, x1, x2), (la, m_cv g nd, v, ty), dt, sc, sr, tg, pl) r := by
            obtain ⟨g1, g2, g3, g4, g5, g6, g7, g8, g9, g10⟩ := F1
            refine ⟨g1, g2, Or.inr (Or.inr (Or.inr (Or.inr (Or.inr (Or.inr (Or.inl ⟨rfl, o17, rfl, rfl⟩)))))), ?_, fun z => ?_, fun z => (by cases z), fun _ => g7 (by show (1 : Nat) ≠ 7; decide), g8, fun _ => g9 (by show (1 : Nat) ≠ 7; decide), fun z => (by cases z)⟩
            · rcases w_cv G f1 o17a o17b with z | z
              · exact Or.inl z
              · exact Or.inr ⟨z.1, z.2, Or.inr (Or.inl rfl)⟩
            · rcases z with z | z <;> cases z
          have I5 : w_iq g Z ((gK g nd).getD 0 0) (((nd, ev, 5, []), (0, x0, x1, x2), (la, m_cv g nd, v, ty), dt, sc, sr, tg, pl) :: r) := by
            obtain ⟨i1, i2⟩ := f9 (by decide)
            refine ⟨?_, ?_⟩
            · show 2 * (m_yh r + 1) + 3 * Z ((gK g nd).getD 0 0) + 1 + w_kY g Z (m_ch g r) + 170 * (5 - m_fc r) ≤ 1040
              omega
            · show 2 * (r.length + 1) + 4 * Z ((gK g nd).getD 0 0) + w_kX g Z (m_ch g r) + 224 * (5 - m_fc r) ≤ 1400
              omega
          have EVAL : ∀ (bv' bl' : Nat → Int32) (s' : St), s' = m_cs g nd ev v s → yE (m_yh r) bv' c_bVar → yE (m_yh r) bl' c_bVal → bv' (m_yh r) = y_bv (m_cv g nd) → (m_cv g nd ≠ 0 → bl' (m_yh r) = v) → wpY_evaluate (fun u => yR post (N + 1) (i + 1) u) (yU g h_count h_open h_types c_sort c_op c_na c_nb c_up c_val c_size c_params c_parent (y_z0 oc) 1 (sBe s) s' (m_yh r + 1) ret (y_tg (some r.length) (((nd, ev, 1, rm), (gt, x0, x1, x2), (la, 0, bx, ty), dt, sc, sr, tg, pl) :: r)) v xy xp 0 0 gv gh c_node (upd c_got (m_yh r) 0) c_handle c_pTarget c_pPlace c_act (upd c_mode (m_yh r) 1) (bv') c_pType c_v0 c_v1 c_v2 c_last (bl') c_pVal) (nI ((gK g nd).getD 0 0)) (nI ev) := by
            intro bv' bl' s' hs' e1 e2 e3 e4
            subst hs'
            have := y_ev (P := fun u => yR post (N + 1) (i + 1) u) (oc := oc) (ret := ret) (xt := y_tg (some r.length) (((nd, ev, 1, rm), (gt, x0, x1, x2), (la, 0, bx, ty), dt, sc, sr, tg, pl) :: r)) (xv := v) (xy := xy) (xp := xp) (gv := gv) (gh := gh) (c_node := c_node) (c_got := upd c_got (m_yh r) 0) (c_handle := c_handle) (c_pTarget := c_pTarget) (c_pPlace := c_pPlace) (c_act := c_act) (c_mode := upd c_mode (m_yh r) 1) (c_bVar := bv') (c_pType := c_pType) (c_v0 := c_v0) (c_v1 := c_v1) (c_v2 := c_v2) (c_last := c_last) (c_bVal := bl') (c_pVal := c_pVal) (l := ((nd, ev, 5, []), (0, x0, x1, x2), (la, m_cv g nd, v, ty), dt, sc, sr, tg, pl) :: r) (s := m_cs g nd ev v s) G Yt cl1 f2 ⟨F5, W⟩ (fun q r' e => by injection e with e _; rw [← e]; exact ⟨by show (5 : Nat) ≠ 4; decide, by show (5 : Nat) ≠ 8; decide⟩) I5 (by rw [gl1.2]; exact hs.1) (by rw [gl1.1]; exact hg) ⟨?_, ?_⟩ (fun u' hu => SET hu)
            · rw [gl1.2] at this
              exact this
            · refine (yF_A (f := ((nd, ev, 5, []), (0, x0, x1, x2), (la, m_cv g nd, v, ty), dt, sc, sr, tg, pl)) (by show (5 : Nat) ≠ 7; decide) (by show (5 : Nat) ≠ 4; decide) (by show (5 : Nat) ≠ 8; decide)).mpr ?_
              refine ⟨b1, b2, pk_us, pk_us, fun _ => ⟨e3, e4⟩, fun z => ?_, fun z => (by cases z), fun z => (by cases z), fun z => (by cases z), fun z => (by cases z), fun z => (by cases z)⟩
              rcases z with z | z | ⟨z, _⟩ <;> cases z
            · exact yL_keep W Yr yE_r (yE_u yE_r (Nat.le_refl _)) yE_r yE_r yE_r yE_r (yE_u yE_r (Nat.le_refl _)) e1 yE_r yE_r yE_r yE_r yE_r e2 yE_r
          refine ⟨vp_in_nI hk (by decide), nm_r (congrArg (upd c_mode (m_yh r)) y_1b) ?_⟩
          refine ⟨vp_in_nI hk (by decide), nm_r (congrArg (upd c_got (m_yh r)) y_0s) ?_⟩
          refine ⟨vp_in_nI hk (by decide), ?_⟩
          rw [nI_clamp (n := m_yh r) (by omega), b1]
          refine ⟨vp_in_nI n4 (by decide), ?_⟩
          rw [nI_clamp (n := nd) (by omega), hnb]
          refine nm_e ?_
          by_cases bb8 : gB g nd < 8
          · refine br_f (nI_ge (b := 8) bb8 (by decide)) ⟨vp_in_nI hk (by decide), ?_⟩
            rw [b2]
            have ei : 8 * nI ev + nI (gB g nd) = nI (8 * ev + gB g nd) := by
              rw [show (8 : Int32) = nI 8 from rfl, pk_mul, nI_add]
            rw [ei]
            refine ⟨vp_in_nI (by omega) (by decide), ?_⟩
            rw [nI_clamp (n := 8 * ev + gB g nd) (by omega)]
            refine nm_e ⟨vp_in_nI hk (by decide), ?_⟩
            try rw [nI_clamp (n := m_yh r) (by omega)]
            rw [b1]
            refine Yt.2.2.1 nd f1 0 (by decide) _ _ _ _ _ _ _ _ _ _ _ _ _ _ _ _ _ _ _ _ _ _ _ _ _ _ _ _ _ _ _ _ _ _ _ _ _ _ _ ?_
            refine ⟨vp_in_nI hk (by decide), ?_⟩
            rw [fo_nx_g (by omega), b2]
            have ecv : m_cv g nd = 0 := if_pos bb8
            have ecs : m_cs g nd ev v s = s_lo s (upd (sLo s) (8 * ev + gB g nd) v) := if_pos bb8
            exact EVAL c_bVar c_bVal (s_lo s (upd (sLo s) (8 * ev + gB g nd) v)) ecs.symm yE_r yE_r (by rw [ecv]; exact (b5 trivial).1) (fun z => absurd ecv z)
          · refine br_t (nI_le (a := 8) (by omega) (by omega)) ?_
            refine ⟨vp_in_nI hk (by decide), nm_r (congrArg (upd c_bVar (m_yh r)) (fb_byte (n := gB g nd) (by omega))) ?_⟩
            refine ⟨vp_in_nI hk (by decide), nm_e ?_⟩
            refine ⟨vp_in_nI hk (by decide), ?_⟩
            try rw [nI_clamp (n := m_yh r) (by omega)]
            rw [b1]
            refine Yt.2.2.1 nd f1 0 (by decide) _ _ _ _ _ _ _ _ _ _ _ _ _ _ _ _ _ _ _ _ _ _ _ _ _ _ _ _ _ _ _ _ _ _ _ _ _ _ _ ?_
            refine ⟨vp_in_nI hk (by decide), ?_⟩
            rw [fo_nx_g (by omega), b2]
            have ecv : m_cv g nd = gB g nd := if_neg bb8
            have ecs : m_cs g nd ev v s = s := if_neg bb8
            refine EVAL (upd c_bVar (m_yh r) (nI (gB g nd))) (upd c_bVal (m_yh r) v) s ecs.symm (yE_u yE_r (Nat.le_refl _)) (yE_u yE_r (Nat.le_refl _)) ?_ (fun _ => pk_us)
            rw [pk_us, ecv]
            unfold y_bv
            rw [if_neg (by omega)]
        · have htr := w_tg_r ht ha
          have et : y_tg tgt (((nd, ev, ph, rm), (gt, x0, x1, x2), (la, bv, bx, ty), dt, sc, sr, tg, pl) :: r) = y_tg tgt r := y_tg_r htr
          refine br_f (by rw [et]; exact y_tg_ne htr _ (by omega) (by omega)) ⟨vp_in_nI hk (by decide), ?_⟩
          rw [nI_clamp (n := m_yh r) (by omega), b1]
          refine br_f (y_nneg n4) ⟨vp_in_nI hk (by decide), vp_in_nI n4 (by decide), ?_⟩
          rw [nI_clamp (n := nd) (by omega), hop]
          refine fb_if (nI_eq (b := 15) (by omega) (by decide)) (fun o => ⟨vp_in_nI hk (by decide), ?_⟩) (fun o => nm_r (nI_pred (m_yh r)) (REST ha (fun z => o z.2) 1 1 rfl))
          rw [b3]
          have w15 : (ph = 0 ∧ gt = 0) ∨ (ph ≠ 0 ∧ 1 ≤ gt ∧ gt ≤ 57) := by
            have F1 : w_f g V Z pa 1 ((nd, ev, ph, rm), (gt, x0, x1, x2), (la, bv, bx, ty), dt, sc, sr, tg, pl) r := by
              rcases FW with z | ⟨_, z⟩
              · exact z.1
              · omega
            have hKl := (w_ks G (n := nd) f1).2.1
            obtain ⟨_, _, f3, _⟩ := F1
            rcases f3 with h | h | h | h | h | h | h | h | h | h
            · exact Or.inl ⟨h.1, h.2.2.2.2.2.2.2 (by omega)⟩
            · omega
            · omega
            · omega
            · exact Or.inr ⟨by omega, h.2.2.1, by have := h.2.2.2.2; omega⟩
            all_goals omega
          refine fb_if (nI_eq (b := 0) (by omega) (by decide)) (fun z => ?_) (fun z => nm_r (nI_pred (m_yh r)) (REST ha (fun y => by omega) 1 1 rfl))
          have p0 : ph = 0 := by omega
          subst p0 z
          rw [e0, if_neg ha, if_pos ⟨rfl, o⟩] at H
          have hb : bv = 0 := by
            rcases f4 with z | ⟨_, _, z⟩
            · exact z
            · rcases z with ⟨z, _⟩ | z | z <;> cases z
          subst hb
          refine ⟨vp_in_nI hk (by decide), nm_r (congrArg (upd c_mode (m_yh r)) y_1b) ?_⟩
          refine ⟨vp_in_nI hk (by decide), nm_r (congrArg (upd c_got (m_yh r)) y_1s) ?_⟩
          refine ⟨vp_in_nI hk (by decide), nm_e ?_⟩
          refine ⟨vp_in_nI hk (by decide), nm_e ?_⟩
          refine ⟨vp_in_nI hk (by decide), nm_e ?_⟩
          refine ⟨vp_in_nI hk (by decide), nm_e ?_⟩
          refine H 1 1 rfl _ ⟨oc, sBe s, m_yh r + 1, ret, y_tg tgt (((nd, ev, 0, rm), (0, x0, x1, x2), (la, 0, bx, ty), dt, sc, sr, tg, pl) :: r), v, xy, xp, 0, 0, gv, gh, c_node, upd c_got (m_yh r) 1, c_handle, upd c_pTarget (m_yh r) (vp_nar .short ((y_tg tgt (((nd, ev, 0, rm), (0, x0, x1, x2), (la, 0, bx, ty), dt, sc, sr, tg, pl) :: r)).toInt16.toInt32)), upd c_pPlace (m_yh r) (vp_nar .short (xp.toInt16.toInt32)), c_act, upd c_mode (m_yh r) 1, c_bVar, upd c_pType (m_yh r) (vp_nar .byte (xy.toInt8.toInt32)), c_v0, c_v1, c_v2, c_last, c_bVal, upd c_pVal (m_yh r) v, hg, fun _ => ⟨rfl, ?_, ?_⟩, fun _ => ⟨rfl, rfl, ?_⟩, fun z => (by cases z), fun z => (by cases z), fun z => (by cases z), fun z => absurd z (by show ¬ 1 ≤ 0; decide), rfl⟩
          · refine (yF_A (f := ((nd, ev, 3, rm), (1, x0, x1, x2), (la, 0, bx, t), v, sc, sr, tgt, pp)) (by show (3 : Nat) ≠ 7; decide) (by show (3 : Nat) ≠ 4; decide) (by show (3 : Nat) ≠ 8; decide)).mpr ?_
            refine ⟨b1, b2, pk_us, pk_us, b5, fun z => ?_, fun z => (by cases z), fun z => (by cases z), fun z => (by cases z), fun z => (by cases z), fun _ => ⟨pk_us, ?_, fun z => ⟨?_, ?_⟩⟩⟩
            · rcases z with z | z | ⟨z, _⟩ <;> cases z
            · rw [pk_us, et, y_tg_s htr (by omega)]
            · have := (hq z).1
              rw [pk_us, (hh z).1]
              exact fb_byte (by omega)
            · obtain ⟨k, k1, k2⟩ := (hq z).2
              rw [pk_us, (hh z).2, k2]
              exact fb_short (by omega)
          · exact yL_keep W Yr yE_r (yE_u yE_r (Nat.le_refl _)) yE_r (yE_u yE_r (Nat.le_refl _)) (yE_u yE_r (Nat.le_refl _)) yE_r (yE_u yE_r (Nat.le_refl _)) yE_r (yE_u yE_r (Nat.le_refl _)) yE_r yE_r yE_r yE_r yE_r (yE_u yE_r (Nat.le_refl _))
          · show sBe s + (if gO g nd = 10 then 1 else 0) = sBe s
            rw [if_neg (by omega)]; rfl
end
end
section
/-! the reference's side: every step, the run -/
section
variable {g : mG} {V : Nat → Prop} {Z : Nat → Nat} {pa : Nat → Option Nat} {T : Nat} {h_count h_open h_types : Int32} {c_sort c_op c_na c_nb c_up c_val c_size c_params c_parent : Nat → Int32} {s : St} {oc ret xt xv xy xp ha exi v : Int32} {be : Nat} {gv gh : Nat → Int32} {c_node c_got c_handle c_pTarget c_pPlace c_act c_mode c_bVar c_pType c_v0 c_v1 c_v2 c_last c_bVal c_pVal : Nat → Int32} {l r : List Fr} {f : Fr} {P : SY → Prop} {post : Int32 → SY → Prop} {N i p q : Nat}
theorem y_sim (G : g_w g V Z pa T) (Yt : yT g V h_count h_open h_types c_sort c_op c_na c_nb c_up c_val c_size c_params c_parent) {m : MS} {u : SY} (W : w_m g V Z pa m) (ht : m.1 < 4) (hpr : u_p m < 1000000) (R : py_R g h_count h_open h_types c_sort c_op c_na c_nb c_up c_val c_size c_params c_parent m u) (hi : i + 2 < 1000000) (H : ∀ p q, p + q = 2 → ∀ u', py_R g h_count h_open h_types c_sort c_op c_na c_nb c_up c_val c_size c_params c_parent (m_step g m) u' → yR post (N + p) (i + q) u') : yR post (N + 2) i u := by
  obtain ⟨t, v, tgt, t5, pp, l, s⟩ := m
  have ht : t < 4 := ht
  have hpr : sPr s < 1000000 := hpr
  obtain ⟨a1, a2, a3, _, b0, b1, b2, b3⟩ := W
  have hs : w_s g s := ⟨a2, a3⟩
  obtain ⟨oc, be, sp, ret, xt, xv, xy, xp, ha, exi, gv, gh, c_node, c_got, c_handle, c_pTarget, c_pPlace, c_act, c_mode, c_bVar, c_pType, c_v0, c_v1, c_v2, c_last, c_bVal, c_pVal, hg, hsp, r0, r1, r2, r3, rb, rfl⟩ := R
  obtain ⟨hsp, Y⟩ := hsp ht
  have hsp : sp = m_yh l := hsp
  subst hsp
  have Y : yL g c_node c_got c_handle c_pTarget c_pPlace c_act c_mode c_bVar c_pType c_v0 c_v1 c_v2 c_last c_bVal c_pVal l := Y
  have hg : yGl gv gh (sGl s) := hg
  have SET : ∀ {u}, yQ g V h_count h_open h_types c_sort c_op c_na c_nb c_up c_val c_size c_params c_parent (m_step g (t, v, tgt, t5, pp, l, s)) u → yR post (N + 1) (i + 1) u := fun hu => y_settle G Yt hi hu H
  have ht : t = 0 ∨ t = 1 ∨ t = 2 ∨ t = 3 := by omega
  rcases ht with rfl | rfl | rfl | rfl
  · obtain ⟨f, r, rfl, c1, c2, c3⟩ := b0 rfl
    have hfr : m_fc r ≤ gD g := Nat.le_trans (Nat.le_add_right _ _) a1
    obtain ⟨g1, g2, g3⟩ := r0 rfl
    subst g1 g2
    obtain ⟨⟨nd, ev, ph, rm⟩, ⟨gt, x0, x1, x2⟩, ⟨la, bv, bx, ty⟩, dt, sc, sr, tg, pl⟩ := f
    have c1 : ph = 0 ∨ ph = 1 ∨ ph = 3 := c1
    have em : m_yh (((nd, ev, ph, rm), (gt, x0, x1, x2), (la, bv, bx, ty), dt, sc, sr, tg, pl) :: r) = m_yh r + 1 := m_yh_1 (by show ph ≠ 7; omega) (by show ph ≠ 4; omega)
    have h9 : gO g nd = 9 → gt ≠ 1 := by
      intro z1 z2
      rcases c3.2 with z | z
      · have z : ph = 3 := z
        obtain ⟨_, _, f3, _⟩ := c2.1
        rcases f3 with h | h | h | h | h | h | h | h | h | h <;> omega
      · have z : gt = 0 := z
        omega
    show yR post (N + 2) i (yU g h_count h_open h_types c_sort c_op c_na c_nb c_up c_val c_size c_params c_parent (y_z0 oc) 1 be s (m_yh (((nd, ev, ph, rm), (gt, x0, x1, x2), (la, bv, bx, ty), dt, sc, sr, tg, pl) :: r)) ret xt xv xy xp 0 0 gv gh c_node c_got c_handle c_pTarget c_pPlace c_act c_mode c_bVar c_pType c_v0 c_v1 c_v2 c_last c_bVal c_pVal)
    rw [em]
    refine y_go (by omega) (show ¬ (1 : Int32) = 0 by decide) ?_
    exact y_adv0 G Yt c2.1 c2.2 c1 c3.1 hfr hs hpr hg Y g3 h9 (fun u' hu => SET hu)
  · obtain ⟨c1, c2⟩ := b1 rfl
    cases l with
    | nil => exact absurd rfl c1
    | cons f r =>
      have hfr : m_fc r ≤ gD g := Nat.le_trans (Nat.le_add_right _ _) a1
      obtain ⟨g1, g2, g3⟩ := r1 rfl
      have g3 : ret = v := g3
      subst g1 g2 g3
      have rb : be = sBe s := rb (Nat.le_refl _)
      subst rb
      obtain ⟨⟨nd, ev, ph, rm⟩, ⟨gt, x0, x1, x2⟩, ⟨la, bv, bx, ty⟩, dt, sc, sr, tg, pl⟩ := f
      by_cases p48 : ph = 4 ∨ ph = 8
      · have e0 : m_step g (1, ret, tgt, t5, pp, ((nd, ev, ph, rm), (gt, x0, x1, x2), (la, bv, bx, ty), dt, sc, sr, tg, pl) :: r, s) = (2, 0, none, 0, 0, ((nd, ev, ph, rm), (gt, x0, x1, x2), (la, bv, bx, ty), dt, sc, sr, tg, pl) :: r, s) := if_pos p48
        rw [e0] at H
        exact H 2 0 rfl _ ⟨oc, sBe s, m_yh (((nd, ev, ph, rm), (gt, x0, x1, x2), (la, bv, bx, ty), dt, sc, sr, tg, pl) :: r), ret, xt, xv, xy, xp, 1, 0, gv, gh, c_node, c_got, c_handle, c_pTarget, c_pPlace, c_act, c_mode, c_bVar, c_pType, c_v0, c_v1, c_v2, c_last, c_bVal, c_pVal, hg, fun _ => ⟨rfl, Y⟩, fun z => (by cases z), fun z => (by cases z), fun _ => rfl, fun z => (by cases z), fun _ => rfl, rfl⟩
      · by_cases p7 : ph = 7
        · subst p7
          obtain ⟨q0, r0', e0, p0, s0⟩ := c2.1.2.2.2.2.2.1 rfl
          subst e0
          have hrm : rm = [] := by
            obtain ⟨_, _, f3, _⟩ := c2.1
            rcases f3 with h | h | h | h | h | h | h | h | h | h
            · omega
            · omega
            · omega
            · omega
            · omega
            · omega
            · omega
            · omega
            · exact h.2.2
            · omega
          subst hrm
          have e0 : m_step g (1, ret, tgt, t5, pp, ((nd, ev, 7, []), (gt, x0, x1, x2), (la, bv, bx, ty), dt, sc, sr, tg, pl) :: q0 :: r0', s) = (1, ret, none, 0, 0, q0 :: r0', s) := rfl
          rw [e0] at H
          exact H 2 0 rfl _ ⟨oc, sBe s, m_yh (q0 :: r0'), ret, xt, xv, xy, xp, 1, 0, gv, gh, c_node, c_got, c_handle, c_pTarget, c_pPlace, c_act, c_mode, c_bVar, c_pType, c_v0, c_v1, c_v2, c_last, c_bVal, c_pVal, hg, fun _ => ⟨rfl, Y.2⟩, fun z => (by cases z), fun _ => ⟨rfl, rfl, rfl⟩, fun z => (by cases z), fun z => (by cases z), fun _ => rfl, rfl⟩
        · have em : m_yh (((nd, ev, ph, rm), (gt, x0, x1, x2), (la, bv, bx, ty), dt, sc, sr, tg, pl) :: r) = m_yh r + 1 := m_yh_1 p7 (fun z => p48 (Or.inl z))
          show yR post (N + 2) i (yU g h_count h_open h_types c_sort c_op c_na c_nb c_up c_val c_size c_params c_parent (y_z0 oc) 1 (sBe s) s (m_yh (((nd, ev, ph, rm), (gt, x0, x1, x2), (la, bv, bx, ty), dt, sc, sr, tg, pl) :: r)) ret xt xv xy xp 1 0 gv gh c_node c_got c_handle c_pTarget c_pPlace c_act c_mode c_bVar c_pType c_v0 c_v1 c_v2 c_last c_bVal c_pVal)
          rw [em]
          refine y_go (by omega) (show ¬ (1 : Int32) = 0 by decide) ?_
          exact y_advh G Yt c2.1 c2.2 (fun z => p48 (Or.inl z)) p7 (fun z => p48 (Or.inr z)) hfr hs hpr hg Y (fun u' hu => SET hu)
  · obtain ⟨f, r, rfl, c1, c2⟩ := b2 rfl
    have g2 : exi = 0 := r2 rfl
    subst g2
    have rb : be = sBe s := rb (by show 1 ≤ 2; decide)
    subst rb
    obtain ⟨⟨nd, ev, ph, rm⟩, ⟨gt, x0, x1, x2⟩, ⟨la, bv, bx, ty⟩, dt, sc, sr, tg, pl⟩ := f
    show yR post (N + 2) i (yU g h_count h_open h_types c_sort c_op c_na c_nb c_up c_val c_size c_params c_parent (y_z0 oc) 1 (sBe s) s (m_yh (((nd, ev, ph, rm), (gt, x0, x1, x2), (la, bv, bx, ty), dt, sc, sr, tg, pl) :: r)) ret xt xv xy xp ha 0 gv gh c_node c_got c_handle c_pTarget c_pPlace c_act c_mode c_bVar c_pType c_v0 c_v1 c_v2 c_last c_bVal c_pVal)
    refine y_go (by omega) (show ¬ (1 : Int32) = 0 by decide) ?_
    exact y_srch G Yt c2.1 c2.2 c1 hs hg Y (fun u' hu => SET hu)
  · obtain ⟨c1, c2, c3⟩ := b3 rfl
    obtain ⟨g1, g2, g3, g4, g5⟩ := r3 rfl
    have g3 : xv = v := g3
    have g4 : xt = y_tg tgt l := g4
    subst g1 g2 g3 g4
    have rb : be = sBe s := rb (by show 1 ≤ 3; decide)
    subst rb
    cases l with
    | nil =>
      have htn : tgt = none := by
        cases htg : tgt with
        | none => rfl
        | some k =>
          obtain ⟨q, r', a1, _⟩ := c2 k htg
          exact absurd (List.suffix_nil.mp a1) (by simp)
      obtain ⟨g6, g7⟩ := g5 htn
      have g6 : xy = nI t5 := g6
      have g7 : xp = pp := g7
      subst g6 g7
      show yR post (N + 2) i (yU g h_count h_open h_types c_sort c_op c_na c_nb c_up c_val c_size c_params c_parent (y_z0 oc) 1 (sBe s) s 0 ret (y_tg tgt []) xv (nI t5) xp 0 1 gv gh c_node c_got c_handle c_pTarget c_pPlace c_act c_mode c_bVar c_pType c_v0 c_v1 c_v2 c_last c_bVal c_pVal)
      refine y_go (by omega) (show ¬ (1 : Int32) = 0 by decide) ?_
      refine br_f (by decide) ?_
      refine nm_e ?_
      refine br_f (by decide) ?_
      show yR post (N + 1) (i + 1) (yU g h_count h_open h_types c_sort c_op c_na c_nb c_up c_val c_size c_params c_parent (1, 0, nI t5, xv, xp) 0 (sBe s) s 0 ret (y_tg tgt []) xv (nI t5) xp 0 1 gv gh c_node c_got c_handle c_pTarget c_pPlace c_act c_mode c_bVar c_pType c_v0 c_v1 c_v2 c_last c_bVal c_pVal)
      exact H 1 1 rfl _ ⟨oc, sBe s, 0, ret, y_tg tgt [], xv, nI t5, xp, 0, 1, gv, gh, c_node, c_got, c_handle, c_pTarget, c_pPlace, c_act, c_mode, c_bVar, c_pType, c_v0, c_v1, c_v2, c_last, c_bVal, c_pVal, hg, fun z => absurd z (by show ¬ 5 < 4; decide), fun z => (by cases z), fun z => (by cases z), fun z => (by cases z), fun z => (by cases z), fun _ => rfl, rfl⟩
    | cons f r =>
      have FW : w_l g V Z pa 1 (f :: r) ∨ w_l g V Z pa 0 (f :: r) ∧ (gO g (fr_nd f) = 12 ∨ gO g (fr_nd f) = 14 ∨ gO g (fr_nd f) = 19) := by
        rcases c1 with z | ⟨f', r', e, z1, z2⟩
        · exact Or.inl z
        · injection e with e1 e2
          subst e1 e2
          exact Or.inr ⟨z1, z2⟩
      obtain ⟨⟨nd, ev, ph, rm⟩, ⟨gt, x0, x1, x2⟩, ⟨la, bv, bx, ty⟩, dt, sc, sr, tg, pl⟩ := f
      exact y_leaveR G Yt FW c2 c3 hs hg Y g5 hi H
theorem y_run (G : g_w g V Z pa T) (Yt : yT g V h_count h_open h_types c_sort c_op c_na c_nb c_up c_val c_size c_params c_parent) : ∀ (b : Nat) {m : MS} {u : SY} {N i : Nat}, w_m g V Z pa m → u_m g Z m ≤ b → u_p m + b < 1000000 → py_R g h_count h_open h_types c_sort c_op c_na c_nb c_up c_val c_size c_params c_parent m u → i + 2 * b < 1000000 → (4 ≤ (m_it g b m).1 → ∀ N i u', i < 1000000 → py_R g h_count h_open h_types c_sort c_op c_na c_nb c_up c_val c_size c_params c_parent (m_it g b m) u' → yR post (N + 1) i u') → yR post (2 * b + 1 + N) i u
  | 0, m, u, N, i, W, hu, hp, R, hi, H => by
    have h4 : 4 ≤ m.1 := by
      rcases Nat.lt_or_ge m.1 4 with z | z
      · have := (w_step G W z).2
        omega
      · exact z
    have := H h4 N i u (by omega) R
    rw [Nat.mul_zero, Nat.zero_add, Nat.add_comm]
    exact this
  | b + 1, m, u, N, i, W, hu, hp, R, hi, H => by
    rcases Nat.lt_or_ge m.1 4 with z | z
    · obtain ⟨⟨s1, s2, s3⟩, s4⟩ := w_step G W z
      have e : 2 * (b + 1) + 1 + N = (2 * b + 1 + N) + 2 := by omega
      rw [e]
      refine y_sim G Yt W z (by omega) R (by omega) (fun p q hpq u' R' => ?_)
      have e2 : 2 * b + 1 + N + p = 2 * b + 1 + (N + p) := by omega
      rw [e2]
      exact y_run G Yt b s1 (by omega) (by omega) R' (by omega) H
    · rw [m_it_done z] at H
      have := H z (2 * (b + 1) + N) i u (by omega) R
      have e : 2 * (b + 1) + 1 + N = 2 * (b + 1) + N + 1 := by omega
      rw [e]
      exact this
end
end
section
/-! the program of a run: what the tables say of it -/
def ru_g (xa xb : Nat → Int32) (P O A C ps : Nat → Nat) (pt : Nat → Nat) (d F : Nat) : mG := (O, A, fun n => (xb n).toNatClampNeg, fun n => n - (xb n).toNatClampNeg, xa, fun n => fo_kids P (56 * (n / 56)) (C (n / 56)) (n % 56), C, ps, fun t a => fo_ia pt 16 t a, d, F)
def ru_V (C : Nat → Nat) (n : Nat) : Prop := n / 56 < 7 ∧ n % 56 < C (n / 56)
def ru_pa (P : Nat → Nat) (n : Nat) : Option Nat := if P n = 0 then none else some (56 * (n / 56) + (P n - 1))
theorem ru_dm {s i : Nat} (hi : i < 56) : (56 * s + i) / 56 = s ∧ (56 * s + i) % 56 = i := by omega
theorem ru_ba {P O A : Nat → Nat} {s lab : Nat} : ∀ (f p : Nat) {t : Nat}, p ≤ 56 → (∀ i, i < p → P (56 * s + i) ≤ i) → fo_ba P O A (56 * s) lab f p = some t → O (56 * s + t) = 11 ∧ t < 56 ∧ ∀ S : Nat → Prop, (∀ i, i + 1 = p → S (56 * s + i)) → (∀ m q, S m → ru_pa P m = some q → S q) → S (56 * s + t)
  | 0, _, _, _, _, h => by cases h
  | f + 1, 0, _, _, _, h => by cases h
  | f + 1, i + 1, t, hp, hP, h => by
    have h : (if O (56 * s + i) = 11 ∧ A (56 * s + i) = lab then some i else fo_ba P O A (56 * s) lab f (P (56 * s + i))) = some t := h
    by_cases e : O (56 * s + i) = 11 ∧ A (56 * s + i) = lab
    · rw [if_pos e] at h
      cases h
      exact ⟨e.1, by omega, fun S h1 _ => h1 i rfl⟩
    · rw [if_neg e] at h
      have hPi := hP i (by omega)
      obtain ⟨a1, a2, a3⟩ := ru_ba f (P (56 * s + i)) (by omega) (fun j hj => hP j (by omega)) h
      refine ⟨a1, a2, fun S h1 h2 => a3 S (fun j hj => ?_) h2⟩
      refine h2 _ _ (h1 i rfl) ?_
      unfold ru_pa
      rw [if_neg (by omega), (ru_dm (s := s) (i := i) (by omega)).1, ← hj]
      rfl
section
variable {xo xa xb xk xz yt yo ya yb yu yv : Nat → Int32} {P Z O A C ps pt : Nat → Nat} {T d F : Nat}
theorem ru_split {n : Nat} (h : ru_V C n) (SL : ∀ s, s < 7 → fo_Slot xo xa xb xk xz yt yo ya yb yu yv P Z O A T (56 * s) (C s) []) : ∃ s i, n = 56 * s + i ∧ s < 7 ∧ i < C s ∧ i < 56 ∧ n / 56 = s ∧ n % 56 = i := by
  have := (SL _ h.1).1
  exact ⟨n / 56, n % 56, by omega, h.1, h.2, by omega, rfl, rfl⟩
theorem ru_Vi {s i : Nat} (hs : s < 7) (hi : i < C s) (h56 : i < 56) : ru_V C (56 * s + i) := by
  obtain ⟨a, b⟩ := ru_dm (s := s) h56
  unfold ru_V
  rw [a, b]
  exact ⟨hs, hi⟩
theorem ru_leaf (SL : ∀ s, s < 7 → fo_Slot xo xa xb xk xz yt yo ya yb yu yv P Z O A T (56 * s) (C s) []) {s i : Nat} (hs : s < 7) (hi : i < C s) (ho : 27 ≤ O (56 * s + i)) : fo_kids P (56 * s) (C s) i = [] := by
  cases hK : fo_kids P (56 * s) (C s) i with
  | nil => rfl
  | cons c cs =>
    obtain ⟨j, j1, j2, j3, j4⟩ := fo_kf_mem (P := P) (C s) 0 (show c ∈ fo_kf P (56 * s) i (C s) 0 by
      have : c ∈ fo_kids P (56 * s) (C s) i := by rw [hK]; exact List.mem_cons_self ..
      exact this)
    have N := ((SL s hs).2.2.2 j (by omega)).1
    have := N.2.2.2.2.2.2.2 i j4.symm
    omega
theorem ru_w (SL : ∀ s, s < 7 → fo_Slot xo xa xb xk xz yt yo ya yb yu yv P Z O A T (56 * s) (C s) []) (h6 : 0 < C 6) (hps : ∀ a, a < 6 → ps a ≤ 3) (hd : 1 ≤ d ∧ d ≤ 5) (hF : F ≤ 200) (hT : T ≤ 15) : g_w (ru_g xa xb P O A C (fun a => if a < 6 then ps a else 0) pt d F) (ru_V C) Z (ru_pa P) T := by
  refine ⟨fun n hn => ?_, fun a ha hc => ?_, ?_, ?_, hd.1, hd.2, hF, hT, fun a => ?_⟩
  · obtain ⟨s, i, rfl, hs, hi, h56, e1, e2⟩ := ru_split hn SL
    obtain ⟨S1, S2, S3, S4⟩ := SL s hs
    obtain ⟨N, L⟩ := S4 i hi
    obtain ⟨n1, n2, n3, n4, n5, n6, n7, n8⟩ := N
    have hT2 := S2.2.1 i hi (by simp)
    have eK : gK (ru_g xa xb P O A C (fun a => if a < 6 then ps a else 0) pt d F) (56 * s + i) = fo_kids P (56 * s) (C s) i := by
      show fo_kids P (56 * ((56 * s + i) / 56)) (C ((56 * s + i) / 56)) ((56 * s + i) % 56) = _
      rw [e1, e2]
    refine ⟨n2, hT2.1, by have := hT2.2.1; omega, by omega, fun c hc => ?_, ?_, fun z => ?_, fun z => (n6 z).2.2.2, fun z => (n7 z).2.2.1, fun z1 z2 => ?_, fun z => ?_⟩
    · rw [eK] at hc
      obtain ⟨j, j1, j2, j3, j4⟩ := fo_kf_mem (P := P) (C s) 0 hc
      rw [j3]
      refine ⟨ru_Vi hs (by omega) (by omega), ?_⟩
      unfold ru_pa
      rw [if_neg (by omega), (ru_dm (s := s) (i := j) (by omega)).1, j4]
      rfl
    · rw [eK]
      have := fo_kids_con S2 hi
      have e3 : 56 * s + (i + Z (56 * s + i)) = 56 * s + i + Z (56 * s + i) := by omega
      rw [e3] at this
      exact this
    · rw [eK]
      exact L (by simp) z
    · obtain ⟨w, w1, w2, _⟩ := (n7 (by have z2 : O (56 * s + i) ≤ 18 := z2; omega)).2.2.2.2.1 z1 z2
      show (xb (56 * s + i)).toNatClampNeg < 12
      rw [w2, nI_clamp (by omega)]
      exact w1
    · have z : O (56 * s + i) = 12 := z
      obtain ⟨t, t1, t2, t3⟩ := (n7 (by omega)).2.2.2.2.2 z
      obtain ⟨a1, a2, a3⟩ := ru_ba 14 (i + 1) (by omega) (fun j hj => (S2.1 j (by omega)).1) t3
      have eR : gR (ru_g xa xb P O A C (fun a => if a < 6 then ps a else 0) pt d F) (56 * s + i) = 56 * s + t := by
        show 56 * s + i - (xb (56 * s + i)).toNatClampNeg = _
        rw [t2, nI_clamp (by omega)]
        omega
      rw [eR]
      refine ⟨a1, fun S h1 h2 => a3 S (fun j hj => ?_) h2⟩
      have : j = i := by omega
      rw [this]; exact h1
  · have h0 : 0 < C a := by
      have hc : C a ≠ 0 := hc
      omega
    have hP0 := ((SL a (by omega)).2.1.1 0 h0).1
    refine ⟨ru_Vi (i := 0) (by omega) h0 (by decide), ?_⟩
    have : P (56 * a) = 0 := by
      have e : 56 * a + 0 = 56 * a := rfl
      rw [e] at hP0
      omega
    show ru_pa P (56 * a) = none
    unfold ru_pa
    rw [if_pos this]
  · exact ru_Vi (s := 6) (i := 0) (by decide) h6 (by decide)
  · have hP0 := ((SL 6 (by decide)).2.1.1 0 h6).1
    have : P 336 = 0 := by
      have hP0 : P 336 ≤ 0 := hP0
      omega
    show ru_pa P 336 = none
    unfold ru_pa
    rw [if_pos this]
  · show (if a < 6 then ps a else 0) ≤ 3
    split
    · exact hps a (by assumption)
    · exact Nat.zero_le _
end
end
section
/-! the program of a run, as both sides keep it -/
theorem fo_ma26 {o : Nat} (h : fo_ma o) : o ≤ 26 := by
  unfold fo_ma at h
  omega
section
variable {P Z O A C ps pt : Nat → Nat} {T d F : Nat} {f_openCount f_typeCount : Int32} {a_nodeOp a_nodeA a_nodeB a_nodeParts a_nodeSize a_slotSize a_slotParams a_openLists a_typeParent : Nat → Int32} {h_count h_open h_types : Int32} {c_sort c_op c_na c_nb c_up c_val c_size c_params c_parent : Nat → Int32}
theorem ru_xG (SL : ∀ s, s < 7 → fo_Slot a_nodeOp a_nodeA a_nodeB a_nodeParts a_nodeSize c_sort c_op c_na c_nb c_up c_val P Z O A T (56 * s) (C s) []) (hC : ∀ s, s < 6 → a_slotSize s = nI (C s) ∧ a_slotParams s = nI (ps s)) (hpt : ∀ t, t < 16 → a_typeParent t = nI (pt t) ∧ (1 ≤ t → pt t < t)) : xG (ru_g a_nodeA a_nodeB P O A C (fun a => if a < 6 then ps a else 0) pt d F) (ru_V C) Z f_openCount f_typeCount a_nodeOp a_nodeA a_nodeB a_nodeParts a_nodeSize a_slotSize a_slotParams a_openLists a_typeParent := by
  refine ⟨fun n hn => ?_, fun f hf => ?_, pt, hpt, fun t a _ => rfl⟩
  · obtain ⟨s, i, rfl, hs, hi, h56, e1, e2⟩ := ru_split hn SL
    have lf := fun z => ru_leaf SL hs hi z
    obtain ⟨S1, S2, S3, S4⟩ := SL s hs
    obtain ⟨N, L⟩ := S4 i hi
    obtain ⟨n1, n2, n3, n4, n5, n6, n7, n8⟩ := N
    have eK : gK (ru_g a_nodeA a_nodeB P O A C (fun a => if a < 6 then ps a else 0) pt d F) (56 * s + i) = fo_kids P (56 * s) (C s) i := by
      show fo_kids P (56 * ((56 * s + i) / 56)) (C ((56 * s + i) / 56)) ((56 * s + i) % 56) = _
      rw [e1, e2]
    refine ⟨n1, by rw [eK]; exact n3, S3 i hi (by simp), fun _ => rfl, fun z => ?_, fun z1 z2 => ?_, fun z => ?_, fun z => by rw [eK]; exact lf z⟩
    · rcases z with z | z
      · exact (n6 z).2.2.1
      · exact ((n7 (fo_ma26 z)).2.2.2.1 z).1
    · obtain ⟨w, w1, w2, _⟩ := (n7 (by have z2 : O (56 * s + i) ≤ 18 := z2; omega)).2.2.2.2.1 z1 z2
      show a_nodeB (56 * s + i) = nI (a_nodeB (56 * s + i)).toNatClampNeg
      rw [w2, nI_clamp (by omega)]
    · have z : O (56 * s + i) = 12 := z
      obtain ⟨t, t1, t2, t3⟩ := (n7 (by omega)).2.2.2.2.2 z
      show 56 * s + i - (a_nodeB (56 * s + i)).toNatClampNeg ≤ 56 * s + i ∧ a_nodeB (56 * s + i) = nI (56 * s + i - (56 * s + i - (a_nodeB (56 * s + i)).toNatClampNeg))
      rw [t2, nI_clamp (by omega)]
      exact ⟨by omega, congrArg nI (by omega)⟩
  · refine ⟨(hC f hf).1, (SL f (by omega)).1, ?_⟩
    show a_slotParams f = nI (if f < 6 then ps f else 0)
    rw [if_pos hf]; exact (hC f hf).2
theorem ru_len {h_depth h_fuel h_sp h_ret h_xTarget h_xVal h_xType h_xPlace h_have h_exiting h_running h_outcome h_value h_error h_datum h_place h_beats h_printed : Int32} {c_global c_cells c_locals c_has c_node c_got c_handle c_pTarget c_pPlace c_act c_mode c_bVar c_pType c_v0 c_v1 c_v2 c_last c_bVal c_pVal c_out : Nat → Int32} {s i : Nat} (hs : s < 7) (hi : i < 56) (hC : ∀ s, s < 6 → c_size s = nI (C s)) (h6 : h_count = nI (C 6)) : ∀ q : Int32 → Prop, q (nI (C s)) → wpY_length q (h_depth, h_fuel, h_count, h_open, h_types, h_sp, h_ret, h_xTarget, h_xVal, h_xType, h_xPlace, h_have, h_exiting, h_running, h_outcome, h_value, h_error, h_datum, h_place, h_beats, h_printed, c_sort, c_op, c_na, c_nb, c_up, c_val, c_size, c_params, c_parent, c_global, c_cells, c_locals, c_has, c_node, c_got, c_handle, c_pTarget, c_pPlace, c_act, c_mode, c_bVar, c_pType, c_v0, c_v1, c_v2, c_last, c_bVal, c_pVal, c_out) (nI (56 * s + i)) := by
  intro q hq
  rcases Nat.lt_or_ge s 6 with z | z
  · exact yl_lenS z hi (hC s z) hq
  · have : s = 6 := by omega
    subst this
    exact yl_lenF hi h6 hq
theorem ru_ba2 {h_depth h_fuel h_count h_open h_types h_sp h_ret h_xTarget h_xVal h_xType h_xPlace h_have h_exiting h_running h_outcome h_value h_error h_datum h_place h_beats h_printed : Int32} {c_sort c_op c_na c_nb c_up c_val c_size c_params c_parent c_global c_cells c_locals c_has c_node c_got c_handle c_pTarget c_pPlace c_act c_mode c_bVar c_pType c_v0 c_v1 c_v2 c_last c_bVal c_pVal c_out : Nat → Int32} {post : Int32 → Prop} {s i t : Nat} (hs : s < 7) (h56 : i < 56) (hall : ∀ j, j < i + 1 → c_up (56 * s + j) = nI (P (56 * s + j)) - 1 ∧ P (56 * s + j) ≤ j ∧ (O (56 * s + j) ≤ 26 → c_op (56 * s + j) = nI (O (56 * s + j)) ∧ (O (56 * s + j) = 11 → (c_na (56 * s + j) = nI (A (56 * s + i)) ↔ A (56 * s + j) = A (56 * s + i))))) (ho : O (56 * s + i) ≤ 26) (hpar : ∀ j, j < i + 1 → ∀ q, q + 1 = P (56 * s + j) → O (56 * s + q) ≤ 26) (t3 : fo_ba P O A (56 * s) (A (56 * s + i)) 14 (i + 1) = some t) (hpost : post (nI (56 * s + t))) : wY_blockAround_5 post (nI (A (56 * s + i))) h_depth h_fuel h_count h_open h_types h_sp h_ret h_xTarget h_xVal h_xType h_xPlace h_have h_exiting h_running h_outcome h_value h_error h_datum h_place h_beats h_printed c_sort c_op c_na c_nb c_up c_val c_size c_params c_parent c_global c_cells c_locals c_has c_node c_got c_handle c_pTarget c_pPlace c_act c_mode c_bVar c_pType c_v0 c_v1 c_v2 c_last c_bVal c_pVal c_out 15 (nI (56 * s + i)) 0 := by
  have := yl_ba5 (h_depth := h_depth) (h_fuel := h_fuel) (h_count := h_count) (h_open := h_open) (h_types := h_types) (h_sp := h_sp) (h_ret := h_ret) (h_xTarget := h_xTarget) (h_xVal := h_xVal) (h_xType := h_xType) (h_xPlace := h_xPlace) (h_have := h_have) (h_exiting := h_exiting) (h_running := h_running) (h_outcome := h_outcome) (h_value := h_value) (h_error := h_error) (h_datum := h_datum) (h_place := h_place) (h_beats := h_beats) (h_printed := h_printed) (c_sort := c_sort) (c_nb := c_nb) (c_val := c_val) (c_size := c_size) (c_params := c_params) (c_parent := c_parent) (c_global := c_global) (c_cells := c_cells) (c_locals := c_locals) (c_has := c_has) (c_node := c_node) (c_got := c_got) (c_handle := c_handle) (c_pTarget := c_pTarget) (c_pPlace := c_pPlace) (c_act := c_act) (c_mode := c_mode) (c_bVar := c_bVar) (c_pType := c_pType) (c_v0 := c_v0) (c_v1 := c_v1) (c_v2 := c_v2) (c_last := c_last) (c_bVal := c_bVal) (c_pVal := c_pVal) (c_out := c_out) (post := post) (P := P) (O := O) (A := A) (p1 := nI (A (56 * s + i))) (b := 56 * s) (lab := A (56 * s + i)) (s := s) rfl (by omega) 14 (i + 1) 0 15 (by omega) (by omega) (by omega) hall (fun j hj => by
    have : j = i := by omega
    rw [this]; exact ho) hpar (fun t' ht' => by
    rw [t3] at ht'
    injection ht' with ht'
    rw [← ht']; exact hpost) (fun z => by rw [t3] at z; cases z)
  rw [if_neg (by omega), Nat.add_sub_cancel] at this
  exact this
theorem ru_yT (SL : ∀ s, s < 7 → fo_Slot a_nodeOp a_nodeA a_nodeB a_nodeParts a_nodeSize c_sort c_op c_na c_nb c_up c_val P Z O A T (56 * s) (C s) []) (hC : ∀ s, s < 6 → c_size s = nI (C s) ∧ c_params s = nI (ps s)) (h6 : h_count = nI (C 6)) (hpt : ∀ t, t < 16 → c_parent t = nI (pt t) ∧ (1 ≤ t → pt t < t)) : yT (ru_g a_nodeA a_nodeB P O A C (fun a => if a < 6 then ps a else 0) pt d F) (ru_V C) h_count h_open h_types c_sort c_op c_na c_nb c_up c_val c_size c_params c_parent := by
  have hup : ∀ s, s < 7 → ∀ j, j < C s → c_up (56 * s + j) = nI (P (56 * s + j)) - 1 ∧ P (56 * s + j) ≤ j := by
    intro s hs j hj
    obtain ⟨S1, S2, S3, S4⟩ := SL s hs
    exact ⟨(S4 j hj).1.2.2.2.1, (S2.1 j hj).1⟩
  refine ⟨fun n hn => ?_, fun n hn => ?_, fun n hn => ?_, fun n hn => ?_, fun f hf => ?_, pt, hpt, fun t a _ => rfl⟩
  · obtain ⟨s, i, rfl, hs, hi, h56, e1, e2⟩ := ru_split hn SL
    obtain ⟨S1, S2, S3, S4⟩ := SL s hs
    obtain ⟨N, L⟩ := S4 i hi
    obtain ⟨n1, n2, n3, n4, n5, n6, n7, n8⟩ := N
    refine ⟨fun z => n5 z, fun z => ⟨(n6 z).1, by rw [(n6 z).2.1]; exact (n6 z).2.2.1⟩, fun z => ⟨(n7 z).1, (n7 z).2.1⟩, fun z => ((n7 (fo_ma26 z)).2.2.2.1 z).2, fun z1 z2 => ?_⟩
    obtain ⟨w, w1, w2, w3⟩ := (n7 (by have z2 : O (56 * s + i) ≤ 18 := z2; omega)).2.2.2.2.1 z1 z2
    show c_nb (56 * s + i) = nI (a_nodeB (56 * s + i)).toNatClampNeg
    rw [w2, w3, nI_clamp (by omega)]
  · obtain ⟨s, i, rfl, hs, hi, h56, e1, e2⟩ := ru_split hn SL
    have eK : gK (ru_g a_nodeA a_nodeB P O A C (fun a => if a < 6 then ps a else 0) pt d F) (56 * s + i) = fo_kids P (56 * s) (C s) i := by
      show fo_kids P (56 * ((56 * s + i) / 56)) (C ((56 * s + i) / 56)) ((56 * s + i) % 56) = _
      rw [e1, e2]
    rw [eK]
    intros
    exact yl_parts s rfl (by omega) (SL s hs).1 h56 (hup s hs) (ru_len hs h56 (fun s hs => (hC s hs).1) h6) (by assumption)
  · obtain ⟨s, i, rfl, hs, hi, h56, e1, e2⟩ := ru_split hn SL
    have eK : gK (ru_g a_nodeA a_nodeB P O A C (fun a => if a < 6 then ps a else 0) pt d F) (56 * s + i) = fo_kids P (56 * s) (C s) i := by
      show fo_kids P (56 * ((56 * s + i) / 56)) (C ((56 * s + i) / 56)) ((56 * s + i) % 56) = _
      rw [e1, e2]
    rw [eK]
    intro j hj
    intros
    exact yl_part s rfl (by omega) (SL s hs).1 h56 hj (hup s hs) (ru_len hs h56 (fun s hs => (hC s hs).1) h6) (by assumption)
  · obtain ⟨s, i, rfl, hs, hi, h56, e1, e2⟩ := ru_split hn SL
    intro z
    obtain ⟨S1, S2, S3, S4⟩ := SL s hs
    obtain ⟨N, L⟩ := S4 i hi
    obtain ⟨n1, n2, n3, n4, n5, n6, n7, n8⟩ := N
    have z : O (56 * s + i) = 12 := z
    obtain ⟨t, t1, t2, t3⟩ := (n7 (by omega)).2.2.2.2.2 z
    have hA8 := (n7 (by omega)).2.2.1.2.2.1 (by omega)
    have eR : gR (ru_g a_nodeA a_nodeB P O A C (fun a => if a < 6 then ps a else 0) pt d F) (56 * s + i) = 56 * s + t := by
      show 56 * s + i - (a_nodeB (56 * s + i)).toNatClampNeg = _
      rw [t2, nI_clamp (by omega)]
      omega
    rw [eR]
    have hall : ∀ j, j < i + 1 → c_up (56 * s + j) = nI (P (56 * s + j)) - 1 ∧ P (56 * s + j) ≤ j ∧ (O (56 * s + j) ≤ 26 → c_op (56 * s + j) = nI (O (56 * s + j)) ∧ (O (56 * s + j) = 11 → (c_na (56 * s + j) = nI (A (56 * s + i)) ↔ A (56 * s + j) = A (56 * s + i)))) := by
      intro j hj
      obtain ⟨Nj, _⟩ := S4 j (by omega)
      obtain ⟨m1, m2, m3, m4, m5, m6, m7, m8⟩ := Nj
      refine ⟨m4, (S2.1 j (by omega)).1, fun y => ⟨(m7 y).2.1, fun y2 => ?_⟩⟩
      have hAj := (m7 y).2.2.1.2.2.1 (by omega)
      rw [((m7 y).2.2.2.1 (by unfold fo_ma; omega)).2]
      exact nI_eq (by omega) (by omega)
    intros
    rename_i post hpost
    exact ⟨15, ru_ba2 (t := t) hs (by omega) hall (by omega) (fun j hj q hq => (S4 j (by omega)).1.2.2.2.2.2.2.2 q hq) t3 hpost⟩
  · refine ⟨(hC f hf).1, (SL f (by omega)).1, ?_⟩
    show c_params f = nI (if f < 6 then ps f else 0)
    rw [if_pos hf]; exact (hC f hf).2
end
end
section
/-! the run: its start and its end -/
def ru_l0 (L : Nat → Int32) (i : Nat) : Nat → Int32 := fun j => if j < i then 0 else L j
theorem ru_l00 (L : Nat → Int32) : ru_l0 L 0 = L := by
  funext j
  exact if_neg (by omega)
theorem ru_l0s (L : Nat → Int32) (i : Nat) : upd (ru_l0 L i) i 0 = ru_l0 L (i + 1) := by
  funext j
  by_cases h : j = i
  · rw [h, pk_us]
    exact (if_pos (by omega)).symm
  · rw [pk_un h]
    unfold ru_l0
    by_cases h2 : j < i
    · rw [if_pos h2, if_pos (by omega)]
    · rw [if_neg h2, if_neg (by omega)]
theorem ru_xst {f_openCount f_typeCount f_printedCount f_depthLimit f_fuelLimit f_lastStatus f_lastValue f_lastError f_lastDatum f_lastPlace f_beatsUsed f_frameCount f_mode f_currentNode f_currentEnv f_result f_calls f_inForce f_exitTarget f_exitValue f_exitType f_exitPlace : Int32} {a_nodeOp a_nodeA a_nodeB a_nodeParts a_nodeSize a_slotSize a_slotParams a_openLists a_typeParent a_elements a_specialValue a_specialHas a_printed a_frames : Nat → Int32} {P : SX → Prop} {L : Nat → Int32} (h : P (f_openCount, f_typeCount, 0, f_depthLimit, f_fuelLimit, 2, 0, 0, 0, (-1), 0, 0, 0, 336, 0, f_result, 0, (-1), f_exitTarget, f_exitValue, f_exitType, f_exitPlace, a_nodeOp, a_nodeA, a_nodeB, a_nodeParts, a_nodeSize, a_slotSize, a_slotParams, a_openLists, a_typeParent, a_elements, ru_l0 L 8, a_specialValue, a_specialHas, a_printed, a_frames)) : ∀ (d i n : Nat), i + d = 8 → d < n → wX_startRun_2 P f_openCount f_typeCount f_printedCount f_depthLimit f_fuelLimit f_lastStatus f_lastValue f_lastError f_lastDatum f_lastPlace f_beatsUsed f_frameCount f_mode f_currentNode f_currentEnv f_result f_calls f_inForce f_exitTarget f_exitValue f_exitType f_exitPlace n (nI i) a_nodeOp a_nodeA a_nodeB a_nodeParts a_nodeSize a_slotSize a_slotParams a_openLists a_typeParent a_elements (ru_l0 L i) a_specialValue a_specialHas a_printed a_frames
  | _, _, 0, _, hn => by omega
  | 0, i, n + 1, hi, hn => by
    have : i = 8 := by omega
    subst this
    rw [wX_startRun_2]
    exact br_t (by decide) h
  | d + 1, i, n + 1, hi, hn => by
    rw [wX_startRun_2]
    refine br_f (nI_ge (b := 8) (by omega) (by decide)) ?_
    refine yy_w 0 (by omega) rfl ?_
    rw [ru_l0s]
    exact nm_r (nI_1 i) (ru_xst h d (i + 1) n (by omega) (by omega))
theorem ru_yst {h_depth h_fuel h_count h_open h_types h_sp h_ret h_xTarget h_xVal h_xType h_xPlace h_have h_exiting h_running h_outcome h_value h_error h_datum h_place h_beats h_printed : Int32} {c_sort c_op c_na c_nb c_up c_val c_size c_params c_parent c_global c_cells c_has c_node c_got c_handle c_pTarget c_pPlace c_act c_mode c_bVar c_pType c_v0 c_v1 c_v2 c_last c_bVal c_pVal c_out : Nat → Int32} {post : Int32 → SY → Prop} {L : Nat → Int32} (h : wpY_evaluate (fun u => ∃ n, yR post n 0 u) (h_depth, h_fuel, h_count, h_open, h_types, h_sp, h_ret, h_xTarget, h_xVal, h_xType, h_xPlace, 0, 0, 1, h_outcome, h_value, h_error, h_datum, h_place, h_beats, h_printed, c_sort, c_op, c_na, c_nb, c_up, c_val, c_size, c_params, c_parent, c_global, c_cells, ru_l0 L 8, c_has, c_node, c_got, c_handle, c_pTarget, c_pPlace, c_act, c_mode, c_bVar, c_pType, c_v0, c_v1, c_v2, c_last, c_bVal, c_pVal, c_out) 336 0) : ∀ (d i n : Nat), i + d = 8 → d < n → wY_run_53 post h_depth h_fuel h_count h_open h_types h_sp h_ret h_xTarget h_xVal h_xType h_xPlace h_have h_exiting h_running h_outcome h_value h_error h_datum h_place h_beats h_printed n (nI i) c_sort c_op c_na c_nb c_up c_val c_size c_params c_parent c_global c_cells (ru_l0 L i) c_has c_node c_got c_handle c_pTarget c_pPlace c_act c_mode c_bVar c_pType c_v0 c_v1 c_v2 c_last c_bVal c_pVal c_out
  | _, _, 0, _, hn => by omega
  | 0, i, n + 1, hi, hn => by
    have : i = 8 := by omega
    subst this
    rw [wY_run_53]
    refine br_t (by decide) ?_
    have e : (fun u : SY => match u with | (h_depth_160, h_fuel_160, h_count_160, h_open_160, h_types_160, h_sp_160, h_ret_160, h_xTarget_160, h_xVal_160, h_xType_160, h_xPlace_160, h_have_160, h_exiting_160, h_running_160, h_outcome_160, h_value_160, h_error_160, h_datum_160, h_place_160, h_beats_160, h_printed_160, c_sort_160, c_op_160, c_na_160, c_nb_160, c_up_160, c_val_160, c_size_160, c_params_160, c_parent_160, c_global_160, c_cells_160, c_locals_160, c_has_160, c_node_160, c_got_160, c_handle_160, c_pTarget_160, c_pPlace_160, c_act_160, c_mode_160, c_bVar_160, c_pType_160, c_v0_160, c_v1_160, c_v2_160, c_last_160, c_bVal_160, c_pVal_160, c_out_160) => ∃ n : Nat, wY_run_97 post n 0 h_depth_160 h_fuel_160 h_count_160 h_open_160 h_types_160 h_sp_160 h_ret_160 h_xTarget_160 h_xVal_160 h_xType_160 h_xPlace_160 h_have_160 h_exiting_160 h_running_160 h_outcome_160 h_value_160 h_error_160 h_datum_160 h_place_160 h_beats_160 h_printed_160 c_sort_160 c_op_160 c_na_160 c_nb_160 c_up_160 c_val_160 c_size_160 c_params_160 c_parent_160 c_global_160 c_cells_160 c_locals_160 c_has_160 c_node_160 c_got_160 c_handle_160 c_pTarget_160 c_pPlace_160 c_act_160 c_mode_160 c_bVar_160 c_pType_160 c_v0_160 c_v1_160 c_v2_160 c_last_160 c_bVal_160 c_pVal_160 c_out_160) = fun u => ∃ n, yR post n 0 u := by
      funext u
      obtain ⟨h_depth_160, h_fuel_160, h_count_160, h_open_160, h_types_160, h_sp_160, h_ret_160, h_xTarget_160, h_xVal_160, h_xType_160, h_xPlace_160, h_have_160, h_exiting_160, h_running_160, h_outcome_160, h_value_160, h_error_160, h_datum_160, h_place_160, h_beats_160, h_printed_160, c_sort_160, c_op_160, c_na_160, c_nb_160, c_up_160, c_val_160, c_size_160, c_params_160, c_parent_160, c_global_160, c_cells_160, c_locals_160, c_has_160, c_node_160, c_got_160, c_handle_160, c_pTarget_160, c_pPlace_160, c_act_160, c_mode_160, c_bVar_160, c_pType_160, c_v0_160, c_v1_160, c_v2_160, c_last_160, c_bVal_160, c_pVal_160, c_out_160⟩ := u
      rfl
    exact (congrArg (fun Q => wpY_evaluate Q (h_depth, h_fuel, h_count, h_open, h_types, h_sp, h_ret, h_xTarget, h_xVal, h_xType, h_xPlace, 0, 0, 1, h_outcome, h_value, h_error, h_datum, h_place, h_beats, h_printed, c_sort, c_op, c_na, c_nb, c_up, c_val, c_size, c_params, c_parent, c_global, c_cells, ru_l0 L 8, c_has, c_node, c_got, c_handle, c_pTarget, c_pPlace, c_act, c_mode, c_bVar, c_pType, c_v0, c_v1, c_v2, c_last, c_bVal, c_pVal, c_out) 336 0) e).mpr h
  | d + 1, i, n + 1, hi, hn => by
    rw [wY_run_53]
    refine br_f (nI_ge (b := 8) (by omega) (by decide)) ?_
    refine yy_w 0 (by omega) rfl ?_
    rw [ru_l0s]
    exact nm_r (nI_1 i) (ru_yst h d (i + 1) n (by omega) (by omega))
section
variable {g : mG} {V : Nat → Prop} {Z : Nat → Nat} {pa : Nat → Option Nat} {T : Nat} {f_openCount f_typeCount : Int32} {a_nodeOp a_nodeA a_nodeB a_nodeParts a_nodeSize a_slotSize a_slotParams a_openLists a_typeParent : Nat → Int32} {h_count h_open h_types : Int32} {c_sort c_op c_na c_nb c_up c_val c_size c_params c_parent : Nat → Int32} {post : Int32 → SY → Prop} {N i j : Nat}
theorem w_it (G : g_w g V Z pa T) : ∀ (b : Nat) {m : MS}, w_m g V Z pa m → w_m g V Z pa (m_it g b m)
  | 0, _, W => W
  | b + 1, m, W => by
    rcases Nat.lt_or_ge m.1 4 with z | z
    · exact w_it G b (w_step G W z).1.1
    · rw [m_it_done z]; exact W
theorem w_it4 (G : g_w g V Z pa T) : ∀ (b : Nat) {m : MS}, w_m g V Z pa m → u_m g Z m ≤ b → 4 ≤ (m_it g b m).1
  | 0, m, W, hu => by
    rcases Nat.lt_or_ge m.1 4 with z | z
    · have := (w_step G W z).2
      omega
    · exact z
  | b + 1, m, W, hu => by
    rcases Nat.lt_or_ge m.1 4 with z | z
    · obtain ⟨⟨s1, s2, s3⟩, s4⟩ := w_step G W z
      exact w_it4 G b s1 (by omega)
    · rw [m_it_done z]; exact z
theorem y_set0 (G : g_w g V Z pa T) (Yt : yT g V h_count h_open h_types c_sort c_op c_na c_nb c_up c_val c_size c_params c_parent) {m : MS} {u : SY} (hj : j + 1 < 1000000) (S : yQ g V h_count h_open h_types c_sort c_op c_na c_nb c_up c_val c_size c_params c_parent m u) (H1 : ∀ u', py_R g h_count h_open h_types c_sort c_op c_na c_nb c_up c_val c_size c_params c_parent m u' → yR post (N + 1) j u') (H0 : ∀ u', py_R g h_count h_open h_types c_sort c_op c_na c_nb c_up c_val c_size c_params c_parent m u' → yR post N (j + 1) u') : yR post (N + 1) j u := by
  rcases S with R | ⟨v, oc, xt, xv, xy, xp, gv, gh, c_node, c_got, c_handle, c_pTarget, c_pPlace, c_act, c_mode, c_bVar, c_pType, c_v0, c_v1, c_v2, c_last, c_bVal, c_pVal, s, rfl, hg, rfl⟩ | ⟨oc, ret, xt, xv, xy, xp, gv, gh, c_node, c_got, c_handle, c_pTarget, c_pPlace, c_act, c_mode, c_bVar, c_pType, c_v0, c_v1, c_v2, c_last, c_bVal, c_pVal, s, l, k, n, rfl, hg, hk, hV, o10, k1, k2, hF, hF2, rfl⟩
  · exact H1 u R
  · refine y_go (by omega) (show ¬ (1 : Int32) = 0 by decide) ?_
    refine br_t rfl (br_t rfl ?_)
    show yR post N (j + 1) (yU g h_count h_open h_types c_sort c_op c_na c_nb c_up c_val c_size c_params c_parent (0, v, 0, 0, -1) 0 (sBe s) s 0 v xt xv xy xp 1 0 gv gh c_node c_got c_handle c_pTarget c_pPlace c_act c_mode c_bVar c_pType c_v0 c_v1 c_v2 c_last c_bVal c_pVal)
    exact H0 _ ⟨oc, sBe s, 0, v, xt, xv, xy, xp, 1, 0, gv, gh, c_node, c_got, c_handle, c_pTarget, c_pPlace, c_act, c_mode, c_bVar, c_pType, c_v0, c_v1, c_v2, c_last, c_bVal, c_pVal, hg, fun z => absurd z (by show ¬ 4 < 4; decide), fun z => (by cases z), fun z => (by cases z), fun z => (by cases z), fun z => (by cases z), fun _ => rfl, rfl⟩
  · have hn := (G.1 n hV).2.2.2.1
    have hop := ((Yt.1 n hV).2.2.1 (by omega)).2
    have hF3 : gF g ≤ 200 := G.2.2.2.2.2.2.1
    refine y_go (by omega) (show ¬ (1 : Int32) = 0 by decide) ?_
    refine br_t rfl ?_
    refine br_f (xx_ne (a := k + 1) (b := 0) (by omega) (by omega) (by decide)) ?_
    rw [show (nI (k + 1) - 1 : Int32) = nI k from nI_pred k]
    refine ⟨vp_in_nI hk (by decide), ?_⟩
    rw [nI_clamp (by omega), k1]
    refine br_t (nI_pos' (by omega)) ?_
    unfold wpY_advance
    dsimp only
    refine ⟨vp_in_nI hk (by decide), ?_⟩
    rw [nI_clamp (by omega), k1]
    refine nm_e ?_
    refine xx_n hn ?_
    rw [hop, o10]
    refine Yt.2.1 n hV _ _ _ _ _ _ _ _ _ _ _ _ _ _ _ _ _ _ _ _ _ _ _ _ _ _ _ _ _ _ _ _ _ _ _ _ _ _ _ ?_
    refine br_t rfl ?_
    refine ⟨vp_in_nI hk (by decide), ?_⟩
    rw [nI_clamp (by omega), k2]
    refine nm_e ?_
    refine br_f (by decide) (br_t rfl ?_)
    refine br_t rfl ?_
    refine y_beat hF2 hF3 (fun z => by omega) (fun z => ?_)
    refine br_t rfl ?_
    show yR post N (j + 1) (yU g h_count h_open h_types c_sort c_op c_na c_nb c_up c_val c_size c_params c_parent (2, 0, 0, 0, -1) 0 (sBe s) s (k + 1) ret xt xv xy xp 0 0 gv gh c_node c_got c_handle c_pTarget c_pPlace c_act c_mode c_bVar c_pType c_v0 c_v1 c_v2 c_last c_bVal c_pVal)
    exact H0 _ ⟨oc, sBe s, k + 1, ret, xt, xv, xy, xp, 0, 0, gv, gh, c_node, c_got, c_handle, c_pTarget, c_pPlace, c_act, c_mode, c_bVar, c_pType, c_v0, c_v1, c_v2, c_last, c_bVal, c_pVal, hg, fun z => absurd z (by show ¬ 6 < 4; decide), fun z => (by cases z), fun z => (by cases z), fun z => (by cases z), fun z => (by cases z), fun _ => rfl, rfl⟩
theorem y_end {m : MS} {u : SY} (W : w_m g V Z pa m) (h4 : 4 ≤ m.1) (R : py_R g h_count h_open h_types c_sort c_op c_na c_nb c_up c_val c_size c_params c_parent m u) (hi : i < 1000000) (H : ∀ (ret xt xv xy xp ha exi : Int32) (gv gh : Nat → Int32) (c_node c_got c_handle c_pTarget c_pPlace c_act c_mode c_bVar c_pType c_v0 c_v1 c_v2 c_last c_bVal c_pVal : Nat → Int32), yGl gv gh (sGl m.2.2.2.2.2.2) → post (x_z m).1 (yU g 0 (-1) h_types c_sort c_op c_na c_nb c_up c_val c_size c_params c_parent (x_z m) 0 (sBe m.2.2.2.2.2.2) m.2.2.2.2.2.2 0 ret xt xv xy xp ha exi gv gh c_node c_got c_handle c_pTarget c_pPlace c_act c_mode c_bVar c_pType c_v0 c_v1 c_v2 c_last c_bVal c_pVal)) : yR post (N + 1) i u := by
  obtain ⟨t, v, tgt, t5, pp, l, s⟩ := m
  obtain ⟨oc, be, sp, ret, xt, xv, xy, xp, ha, exi, gv, gh, c_node, c_got, c_handle, c_pTarget, c_pPlace, c_act, c_mode, c_bVar, c_pType, c_v0, c_v1, c_v2, c_last, c_bVal, c_pVal, hg, _, _, _, _, _, rb, rfl⟩ := R
  obtain ⟨_, _, _, hE, _⟩ := W
  have rb : be = sBe s := rb (by have h4 : 4 ≤ t := h4; show 1 ≤ t; omega)
  subst rb
  have H := H ret xt xv xy xp ha exi gv gh c_node c_got c_handle c_pTarget c_pPlace c_act c_mode c_bVar c_pType c_v0 c_v1 c_v2 c_last c_bVal c_pVal hg
  rcases hE h4 with ⟨rfl, rfl⟩ | ⟨rfl, rfl⟩ | ⟨rfl, w, Wl⟩
  · exact br_f (nI_ge (b := 1000000) hi (by decide)) (br_t rfl H)
  · exact br_f (nI_ge (b := 1000000) hi (by decide)) (br_t rfl H)
  · exact br_f (nI_ge (b := 1000000) hi (by decide)) (br_t rfl H)
end
end
section
/-! the relation after a run -/
def ru_gl (sv sh : Nat → Int32) (v : Nat) : Option Int32 := if sh (v - 8) = 0 then none else some (sv (v - 8))
theorem ru_sp {sv sh gv gh : Nat → Int32} (h : rl_Sp sv sh gv gh) : xSp sv sh (ru_gl sv sh) [] ∧ yGl gv gh (ru_gl sv sh) := by
  refine ⟨fun j hj => ?_, fun j hj => ?_⟩
  · obtain ⟨h1, h2, h3⟩ := h j hj
    show x_sp (sv j) (sh j) (if sh (8 + j - 8) = 0 then none else some (sv (8 + j - 8)))
    rw [show 8 + j - 8 = j from by omega]
    rcases h1 with z | z
    · rw [if_pos z]; exact z
    · rw [if_neg (by rw [z]; decide)]; exact ⟨z, rfl⟩
  · obtain ⟨h1, h2, h3⟩ := h j hj
    show x_sp (gv (8 + j)) (gh (8 + j)) (if sh (8 + j - 8) = 0 then none else some (sv (8 + j - 8)))
    rw [show 8 + j - 8 = j from by omega]
    rcases h1 with z | z
    · rw [if_pos z]; exact h2.trans z
    · rw [if_neg (by rw [z]; decide)]; exact ⟨h2.trans z, h3 (by rw [z]; decide)⟩
theorem ru_sp2 {sv sh gv gh : Nat → Int32} {gl : Nat → Option Int32} (h1 : xSp sv sh gl []) (h2 : yGl gv gh gl) : rl_Sp sv sh gv gh := by
  intro j hj
  have a : x_sp (sv j) (sh j) (gl (8 + j)) := h1 j hj
  have b : x_sp (gv (8 + j)) (gh (8 + j)) (gl (8 + j)) := h2 j hj
  cases hg : gl (8 + j) with
  | none =>
    rw [hg] at a b
    have a : sh j = 0 := a
    have b : gh (8 + j) = 0 := b
    exact ⟨Or.inl a, b.trans a.symm, fun z => absurd a z⟩
  | some x =>
    rw [hg] at a b
    exact ⟨Or.inr a.1, b.1.trans a.1.symm, fun _ => b.2.trans a.2.symm⟩
section
variable {P Z O A C ps pt : Nat → Nat} {T d F k : Nat} {f_openCount f_typeCount : Int32} {a_nodeOp a_nodeA a_nodeB a_nodeParts a_nodeSize a_slotSize a_slotParams a_openLists a_typeParent : Nat → Int32} {h_count h_open h_types : Int32} {c_sort c_op c_na c_nb c_up c_val c_size c_params c_parent : Nat → Int32} {g : mG} {s : St} {sv sh gv gh fr : Nat → Int32} {ca inf mo cn ce re et ex ey ep ret xt xv xy xp ha exi rn : Int32} {z : Int32 × Int32 × Int32 × Int32 × Int32} {c_node c_got c_handle c_pTarget c_pPlace c_act c_mode c_bVar c_pType c_v0 c_v1 c_v2 c_last c_bVal c_pVal : Nat → Int32} {l : List Nat}
theorem ru_rel (hD : gD g = d ∧ 1 ≤ d ∧ d ≤ 5) (hF : gF g = F ∧ 1 ≤ F ∧ F ≤ 200) (ht : f_typeCount = nI T ∧ h_types = nI T ∧ rl_Ty T a_typeParent ∧ c_parent = a_typeParent) (hce : rl_Ce (sCe s)) (h1 : xSp sv sh (sGl s) []) (h2 : yGl gv gh (sGl s)) (hT : rl_T a_nodeOp a_nodeA a_nodeB a_nodeParts a_nodeSize a_slotSize a_slotParams a_openLists f_openCount c_sort c_op c_na c_nb c_up c_val c_size c_params h_count h_open T) : i_Rel k (xU g 0 f_typeCount a_nodeOp a_nodeA a_nodeB a_nodeParts a_nodeSize (upd a_slotSize 6 0) a_slotParams a_openLists a_typeParent z s 0 ca inf mo cn ce re et ex ey ep sv sh fr) (yU g 0 (-1) h_types c_sort c_op c_na c_nb c_up c_val c_size c_params c_parent z rn (sBe s) s 0 ret xt xv xy xp ha exi gv gh c_node c_got c_handle c_pTarget c_pPlace c_act c_mode c_bVar c_pType c_v0 c_v1 c_v2 c_last c_bVal c_pVal) := by
  obtain ⟨P, Z, O, A, C, ps, os, F1, F2, F3, F4, F5, F6, F7, F8, F9, F10, F11⟩ := hT
  refine ⟨T, d, F, ht, ⟨congrArg nI hD.1, congrArg nI hD.1, hD.2⟩, ⟨congrArg nI hF.1, congrArg nI hF.1, hF.2⟩, ⟨rfl, rfl, rfl, rfl, rfl⟩, ⟨rfl, rfl, rfl, rfl, hce⟩, ru_sp2 h1 h2, P, Z, O, A, fo_up C 6 0, ps, [], fun s hs => ?_, ?_, trivial, by decide, trivial, rfl, rfl, ?_, ?_, fun o h => (by cases h), F11⟩
  · rw [fo_un (by omega), pk_un (by omega)]; exact F1 s hs
  · rw [fo_us]
    refine ⟨by decide, ⟨fun i h => absurd h (Nat.not_lt_zero _), fun i h => absurd h (Nat.not_lt_zero _), fun i h => by cases h⟩, fun i h => absurd h (Nat.not_lt_zero _), fun i h => absurd h (Nat.not_lt_zero _)⟩
  · rw [pk_us, fo_us]; rfl
  · rw [fo_us]; rfl
end
end
section
/-! run -/
theorem i_vc_run {k : Nat} {u : SX} {v : SY} (I : i_Rel k u v) (hk : k + 4 ≤ 2050) : wpX_run (fun r u' => wpY_run (fun r' v' => r' = r ∧ i_Rel (k + 4) u' v') v) u := by
  obtain ⟨f_openCount, f_typeCount, f_printedCount, f_depthLimit, f_fuelLimit, f_lastStatus, f_lastValue, f_lastError, f_lastDatum, f_lastPlace, f_beatsUsed, f_frameCount, f_mode, f_currentNode, f_currentEnv, f_result, f_calls, f_inForce, f_exitTarget, f_exitValue, f_exitType, f_exitPlace, a_nodeOp, a_nodeA, a_nodeB, a_nodeParts, a_nodeSize, a_slotSize, a_slotParams, a_openLists, a_typeParent, a_elements, a_locals, a_specialValue, a_specialHas, a_printed, a_frames⟩ := u
  obtain ⟨h_depth, h_fuel, h_count, h_open, h_types, h_sp, h_ret, h_xTarget, h_xVal, h_xType, h_xPlace, h_have, h_exiting, h_running, h_outcome, h_value, h_error, h_datum, h_place, h_beats, h_printed, c_sort, c_op, c_na, c_nb, c_up, c_val, c_size, c_params, c_parent, c_global, c_cells, c_locals, c_has, c_node, c_got, c_handle, c_pTarget, c_pPlace, c_act, c_mode, c_bVar, c_pType, c_v0, c_v1, c_v2, c_last, c_bVal, c_pVal, c_out⟩ := v
  have I' := I
  obtain ⟨T, d, F, R1, ⟨d1, d2, d3⟩, ⟨g1, g2, g3⟩, R4, ⟨r1, r2, r3, r4, r5⟩, R6, RT⟩ := I'
  have RT' := RT
  obtain ⟨P, Z, O, A, C, ps, os, F1, F2, F3, F4, F5, F6, F7, F8, F9, F10, F11⟩ := RT'
  obtain ⟨t1, t2, ⟨t3, t4, pt, t5⟩, t6⟩ := R1
  have hC56 := F2.1
  unfold wpX_run
  dsimp only
  cases os with
  | cons o r =>
    have ho := (F2.2.1.2.2 o (List.mem_cons_self ..)).1
    refine br_f ?_ (br_t rfl ?_)
    · rw [F6]
      exact xx_ne (a := r.length + 1) (b := 0) (by omega) (by have : r.length + 1 ≤ 12 := F4; omega) (by decide)
    · refine br_f ?_ (br_f ?_ ⟨rfl, I⟩)
      · rw [F9]
        exact xx_ne (b := 0) (by omega) (by omega) (by decide)
      · rw [F7]
        show ¬ nI (o + 1) - 1 < 0
        rw [nI_pred]
        exact nI_pos (by omega)
  | nil =>
    have f6 : f_openCount = 0 := F6
    have f7 : h_open = -1 := F7
    refine br_t f6 ?_
    rw [F8]
    refine fb_if (nI_leI (b := 0) (by omega) (by decide)) (fun z => ?_) (fun z => ?_)
    · refine br_t rfl (br_t ?_ ⟨rfl, I⟩)
      rw [F9, show C 6 = 0 from by omega]
      rfl
    · refine br_f (by decide) ?_
      have SL : ∀ s, s < 7 → fo_Slot a_nodeOp a_nodeA a_nodeB a_nodeParts a_nodeSize c_sort c_op c_na c_nb c_up c_val P Z O A T (56 * s) (C s) [] := by
        intro s hs
        rcases Nat.lt_or_ge s 6 with y | y
        · exact (F1 s y).1
        · have : s = 6 := by omega
          subst this
          exact F2
      have G := ru_w (pt := pt) SL (show 0 < C 6 by omega) (fun a ha => (F1 a ha).2.2.2.2.2) d3 g3.2 t4
      have X := ru_xG (d := d) (F := F) (f_openCount := f_openCount) (f_typeCount := f_typeCount) (a_openLists := a_openLists) SL (fun s hs => ⟨(F1 s hs).2.1, (F1 s hs).2.2.2.1⟩) t5
      have t5' : ∀ t, t < 16 → c_parent t = nI (pt t) ∧ (1 ≤ t → pt t < t) := by rw [t6]; exact t5
      have Yt := ru_yT (d := d) (F := F) (h_open := h_open) (h_types := h_types) SL (fun s hs => ⟨(F1 s hs).2.2.1, (F1 s hs).2.2.2.2.1⟩) F9 t5'
      obtain ⟨sp1, sp2⟩ := ru_sp R6
      have hs0 : w_s (ru_g a_nodeA a_nodeB P O A C (fun a => if a < 6 then ps a else 0) pt d F) (ru_l0 a_locals 8, a_elements, a_printed, 0, 0, ru_gl a_specialValue a_specialHas) := ⟨Nat.zero_le _, r5⟩
      have V6 : ru_V C 336 := G.2.2.1
      have hZ6 := (G.1 336 V6).2.2.1
      have Iq : w_iq (ru_g a_nodeA a_nodeB P O A C (fun a => if a < 6 then ps a else 0) pt d F) Z 336 [] := by
        refine ⟨?_, ?_⟩
        · show 2 * 0 + 3 * Z 336 + 1 + 0 + 170 * (5 - 0) ≤ 1040
          omega
        · show 2 * 0 + 4 * Z 336 + 0 + 224 * (5 - 0) ≤ 1400
          omega
      have W0 := w_ev G (n := 336) (e := 0) (l := []) (s := (ru_l0 a_locals 8, a_elements, a_printed, 0, 0, ru_gl a_specialValue a_specialHas)) V6 (by decide) trivial (Or.inl G.2.2.2.1) Iq (Nat.zero_le _) (fun q r' e => by cases e) hs0
      have hF200 : F ≤ 200 := g3.2
      obtain ⟨w1, w2, w3⟩ := W0
      have w2 : u_m (ru_g a_nodeA a_nodeB P O A C (fun a => if a < 6 then ps a else 0) pt d F) Z (m_ev (ru_g a_nodeA a_nodeB P O A C (fun a => if a < 6 then ps a else 0) pt d F) 336 0 [] (ru_l0 a_locals 8, a_elements, a_printed, 0, 0, ru_gl a_specialValue a_specialHas)) ≤ 201000 := by
        refine Nat.le_trans w2 ?_
        show 1000 * (F - 0) + 0 + 16 * Z 336 ≤ 201000
        omega
      have w3 : u_p (m_ev (ru_g a_nodeA a_nodeB P O A C (fun a => if a < 6 then ps a else 0) pt d F) 336 0 [] (ru_l0 a_locals 8, a_elements, a_printed, 0, 0, ru_gl a_specialValue a_specialHas)) ≤ 0 := w3
      obtain ⟨b, hb⟩ : ∃ b, b = 201000 := ⟨_, rfl⟩
      have w2 := Nat.le_trans w2 (Nat.le_of_eq hb.symm)
      have Wf := w_it G b w1
      have H4 := w_it4 G b w1 w2
      refine ⟨9, ?_⟩
      have hx := ru_l00 a_locals
      refine Eq.mp ?_ (ru_xst (f_openCount := f_openCount) (f_typeCount := f_typeCount) (f_printedCount := f_printedCount) (f_depthLimit := f_depthLimit) (f_fuelLimit := f_fuelLimit) (f_lastStatus := f_lastStatus) (f_lastValue := f_lastValue) (f_lastError := f_lastError) (f_lastDatum := f_lastDatum) (f_lastPlace := f_lastPlace) (f_beatsUsed := f_beatsUsed) (f_frameCount := f_frameCount) (f_mode := f_mode) (f_currentNode := f_currentNode) (f_currentEnv := f_currentEnv) (f_result := f_result) (f_calls := f_calls) (f_inForce := f_inForce) (f_exitTarget := f_exitTarget) (f_exitValue := f_exitValue) (f_exitType := f_exitType) (f_exitPlace := f_exitPlace) (a_nodeOp := a_nodeOp) (a_nodeA := a_nodeA) (a_nodeB := a_nodeB) (a_nodeParts := a_nodeParts) (a_nodeSize := a_nodeSize) (a_slotSize := a_slotSize) (a_slotParams := a_slotParams) (a_openLists := a_openLists) (a_typeParent := a_typeParent) (a_elements := a_elements) (a_specialValue := a_specialValue) (a_specialHas := a_specialHas) (a_printed := a_printed) (a_frames := a_frames) (L := a_locals) (P := fun u => ∃ n, xR (fun r u' => wpY_run (fun r' v' => r' = r ∧ i_Rel (k + 4) u' v') (h_depth, h_fuel, h_count, h_open, h_types, h_sp, h_ret, h_xTarget, h_xVal, h_xType, h_xPlace, h_have, h_exiting, h_running, h_outcome, h_value, h_error, h_datum, h_place, h_beats, h_printed, c_sort, c_op, c_na, c_nb, c_up, c_val, c_size, c_params, c_parent, c_global, c_cells, c_locals, c_has, c_node, c_got, c_handle, c_pTarget, c_pPlace, c_act, c_mode, c_bVar, c_pType, c_v0, c_v1, c_v2, c_last, c_bVal, c_pVal, c_out)) n 0 u) ?_ 8 0 9 (by omega) (by omega))
      · rw [hx]
        rfl
      · refine ⟨8 * b + 1 + 0 + 1, ?_⟩
        subst d1 g1
        show xR _ (8 * b + 1 + 0 + 1) 0 (xU (ru_g a_nodeA a_nodeB P O A C (fun a => if a < 6 then ps a else 0) pt d F) f_openCount f_typeCount a_nodeOp a_nodeA a_nodeB a_nodeParts a_nodeSize a_slotSize a_slotParams a_openLists a_typeParent x_z0 (ru_l0 a_locals 8, a_elements, a_printed, 0, 0, ru_gl a_specialValue a_specialHas) 0 (nI 0) (-1) 0 (nI 336) (nI 0) f_result f_exitTarget f_exitValue f_exitType f_exitPlace a_specialValue a_specialHas a_frames)
        refine x_go (by decide) (show ¬ (0 : Int32) = 7 by decide) ?_
        refine x_ev (l := []) (s := (ru_l0 a_locals 8, a_elements, a_printed, 0, 0, ru_gl a_specialValue a_specialHas)) G X V6 (by decide) (by decide) (Nat.zero_le _) sp1 trivial (fun u' hu => ?_)
        refine x_run (N := 0) (i := 0 + 1) G X b w1 w2 (by omega) hu (by omega) (fun h4 N i u'' hi hu2 => ?_)
        refine x_end G Wf H4 hu2 hi (fun ca' inf' mo cn ce re et ex ey ep sv' sh' fr hsp => ?_)
        refine br_f ?_ (br_t ?_ ⟨9, ?_⟩)
        · rw [F9]
          exact xx_ne (b := 0) (by omega) (by omega) (by decide)
        · rw [f7]; decide
        have hxy := ru_l00 c_locals
        refine Eq.mp ?_ (ru_yst (h_depth := h_depth) (h_fuel := h_fuel) (h_count := h_count) (h_open := h_open) (h_types := h_types) (h_sp := 0) (h_ret := h_ret) (h_xTarget := h_xTarget) (h_xVal := h_xVal) (h_xType := h_xType) (h_xPlace := h_xPlace) (h_have := h_have) (h_exiting := h_exiting) (h_running := h_running) (h_outcome := h_outcome) (h_value := 0) (h_error := 0) (h_datum := 0) (h_place := -1) (h_beats := 0) (h_printed := 0) (c_sort := c_sort) (c_op := c_op) (c_na := c_na) (c_nb := c_nb) (c_up := c_up) (c_val := c_val) (c_size := c_size) (c_params := c_params) (c_parent := c_parent) (c_global := c_global) (c_cells := c_cells) (c_has := c_has) (c_node := c_node) (c_got := c_got) (c_handle := c_handle) (c_pTarget := c_pTarget) (c_pPlace := c_pPlace) (c_act := c_act) (c_mode := c_mode) (c_bVar := c_bVar) (c_pType := c_pType) (c_v0 := c_v0) (c_v1 := c_v1) (c_v2 := c_v2) (c_last := c_last) (c_bVal := c_bVal) (c_pVal := c_pVal) (c_out := c_out) (L := c_locals) (post := fun r' v' => r' = (x_z (m_it (ru_g a_nodeA a_nodeB P O A C (fun a => if a < 6 then ps a else 0) pt d F) b (m_ev (ru_g a_nodeA a_nodeB P O A C (fun a => if a < 6 then ps a else 0) pt d F) 336 0 [] (ru_l0 a_locals 8, a_elements, a_printed, 0, 0, ru_gl a_specialValue a_specialHas)))).1 ∧ i_Rel (k + 4) (xU (ru_g a_nodeA a_nodeB P O A C (fun a => if a < 6 then ps a else 0) pt d F) 0 f_typeCount a_nodeOp a_nodeA a_nodeB a_nodeParts a_nodeSize (upd a_slotSize 6 0) a_slotParams a_openLists a_typeParent (x_z (m_it (ru_g a_nodeA a_nodeB P O A C (fun a => if a < 6 then ps a else 0) pt d F) b (m_ev (ru_g a_nodeA a_nodeB P O A C (fun a => if a < 6 then ps a else 0) pt d F) 336 0 [] (ru_l0 a_locals 8, a_elements, a_printed, 0, 0, ru_gl a_specialValue a_specialHas)))) (m_it (ru_g a_nodeA a_nodeB P O A C (fun a => if a < 6 then ps a else 0) pt d F) b (m_ev (ru_g a_nodeA a_nodeB P O A C (fun a => if a < 6 then ps a else 0) pt d F) 336 0 [] (ru_l0 a_locals 8, a_elements, a_printed, 0, 0, ru_gl a_specialValue a_specialHas))).2.2.2.2.2.2 0 ca' inf' mo cn ce re et ex ey ep sv' sh' fr) v') ?_ 8 0 9 (by omega) (by omega))
        · rw [hxy]
          rfl
        · have d2' : h_depth = nI d := d2
          have g2' : h_fuel = nI F := g2
          subst r2 r3 r4
          subst d2' g2'
          refine y_ev (l := []) (oc := h_outcome) (s := (ru_l0 c_locals 8, c_cells, c_out, 0, 0, ru_gl a_specialValue a_specialHas)) G Yt V6 (by decide) trivial (fun q r' e => by cases e) Iq (Nat.zero_le _) sp2 trivial (fun u3 hq => ?_)
          refine ⟨2 * b + 1 + 1, ?_⟩
          refine y_set0 (N := 2 * b + 1) (j := 0) G Yt (by decide) hq (fun u4 hu4 => ?_) (fun u4 hu4 => ?_)
          · exact y_run (N := 1) (i := 0) G Yt b w1 w2 (by omega) hu4 (by omega) (fun _ N i u5 hi5 hu5 => y_end Wf H4 hu5 hi5 (fun ret xt xv xy xp ha exi gv gh b1 b2 b3 b4 b5 b6 b7 b8 b9 b10 b11 b12 b13 b14 b15 hgl => ⟨rfl, ru_rel ⟨rfl, d3⟩ ⟨rfl, g3⟩ ⟨t1, t2, ⟨t3, t4, pt, t5⟩, t6⟩ Wf.2.2.1 hsp hgl RT⟩))
          · exact y_run (N := 0) (i := 0 + 1) G Yt b w1 w2 (by omega) hu4 (by omega) (fun _ N i u5 hi5 hu5 => y_end Wf H4 hu5 hi5 (fun ret xt xv xy xp ha exi gv gh b1 b2 b3 b4 b5 b6 b7 b8 b9 b10 b11 b12 b13 b14 b15 hgl => ⟨rfl, ru_rel ⟨rfl, d3⟩ ⟨rfl, g3⟩ ⟨t1, t2, ⟨t3, t4, pt, t5⟩, t6⟩ Wf.2.2.1 hsp hgl RT⟩))
end
