/-! the program of a run: what the tables say of it -/
def ru_g (xa xb : Nat → Int32) (P O A C ps : Nat → Nat) (pt : Nat → Nat) (d F : Nat) : mG := (O, A, fun n => (xb n).toNatClampNeg, fun n => n - (xb n).toNatClampNeg, xa, fun n => fo_kids P (56 * (n / 56)) (C (n / 56)) (n % 56), C, ps, fun t a => fo_ia pt 16 t a, d, F)
def ru_V (C : Nat → Nat) (n : Nat) : Prop := n / 56 < 7 ∧ n % 56 < C (n / 56)
def ru_pa (P : Nat → Nat) (n : Nat) : Option Nat := if P n = 0 then none else some (56 * (n / 56) + (P n - 1))
theorem ru_dm {s i : Nat} (hi : i < 56) : (56 * s + i) / 56 = s ∧ (56 * s + i) % 56 = i := by omega
theorem ru_ba {P O A : Nat → Nat} {s lab : Nat} : ∀ (f p : Nat) {t : Nat}, p ≤ 56 → (∀ i, i < p → P (56 * s + i) ≤ i) → fo_ba P O A (56 * s) lab f p = some t → O (56 * s + t) = 11 ∧ t < 56 ∧ ∀ S : Nat → Prop, (∀ i, i + 1 = p → S (56 * s + i)) → (∀ m q, S m → ru_pa P m = some q → S q) → S (56 * s + t)
  | 0, _, _, _, _, h => by cases h
  | f + 1, 0, _, _, _, h => by cases h
  | f + 1, i + 1, t, hp, hP, h => by
    have h : (if O (56 * s + i) = 11 ∧ A (56 * s + i) = lab then some i else fo_ba P O A (56 * s) lab f (P (56 * s + i))) = some t := h
    by_cases e : O (56 * s + i) = 11 ∧ A (56 * s + i) = lab
    · rw [if_pos e] at h
      cases h
      exact ⟨e.1, by omega, fun S h1 _ => h1 i rfl⟩
    · rw [if_neg e] at h
      have hPi := hP i (by omega)
      obtain ⟨a1, a2, a3⟩ := ru_ba f (P (56 * s + i)) (by omega) (fun j hj => hP j (by omega)) h
      refine ⟨a1, a2, fun S h1 h2 => a3 S (fun j hj => ?_) h2⟩
      refine h2 _ _ (h1 i rfl) ?_
      unfold ru_pa
      rw [if_neg (by omega), (ru_dm (s := s) (i := i) (by omega)).1, ← hj]
      rfl
section
variable {xo xa xb xk xz yt yo ya yb yu yv : Nat → Int32} {P Z O A C ps pt : Nat → Nat} {T d F : Nat}
theorem ru_split {n : Nat} (h : ru_V C n) (SL : ∀ s, s < 7 → fo_Slot xo xa xb xk xz yt yo ya yb yu yv P Z O A T (56 * s) (C s) []) : ∃ s i, n = 56 * s + i ∧ s < 7 ∧ i < C s ∧ i < 56 ∧ n / 56 = s ∧ n % 56 = i := by
  have := (SL _ h.1).1
  exact ⟨n / 56, n % 56, by omega, h.1, h.2, by omega, rfl, rfl⟩
theorem ru_Vi {s i : Nat} (hs : s < 7) (hi : i < C s) (h56 : i < 56) : ru_V C (56 * s + i) := by
  obtain ⟨a, b⟩ := ru_dm (s := s) h56
  unfold ru_V
  rw [a, b]
  exact ⟨hs, hi⟩
theorem ru_leaf (SL : ∀ s, s < 7 → fo_Slot xo xa xb xk xz yt yo ya yb yu yv P Z O A T (56 * s) (C s) []) {s i : Nat} (hs : s < 7) (hi : i < C s) (ho : 27 ≤ O (56 * s + i)) : fo_kids P (56 * s) (C s) i = [] := by
  cases hK : fo_kids P (56 * s) (C s) i with
  | nil => rfl
  | cons c cs =>
    obtain ⟨j, j1, j2, j3, j4⟩ := fo_kf_mem (P := P) (C s) 0 (show c ∈ fo_kf P (56 * s) i (C s) 0 by
      have : c ∈ fo_kids P (56 * s) (C s) i := by rw [hK]; exact List.mem_cons_self ..
      exact this)
    have N := ((SL s hs).2.2.2 j (by omega)).1
    have := N.2.2.2.2.2.2.2 i j4.symm
    omega
theorem ru_w (SL : ∀ s, s < 7 → fo_Slot xo xa xb xk xz yt yo ya yb yu yv P Z O A T (56 * s) (C s) []) (h6 : 0 < C 6) (hps : ∀ a, a < 6 → ps a ≤ 3) (hd : 1 ≤ d ∧ d ≤ 5) (hF : F ≤ 200) (hT : T ≤ 15) : g_w (ru_g xa xb P O A C (fun a => if a < 6 then ps a else 0) pt d F) (ru_V C) Z (ru_pa P) T := by
  refine ⟨fun n hn => ?_, fun a ha hc => ?_, ?_, ?_, hd.1, hd.2, hF, hT, fun a => ?_⟩
  · obtain ⟨s, i, rfl, hs, hi, h56, e1, e2⟩ := ru_split hn SL
    obtain ⟨S1, S2, S3, S4⟩ := SL s hs
    obtain ⟨N, L⟩ := S4 i hi
    obtain ⟨n1, n2, n3, n4, n5, n6, n7, n8⟩ := N
    have hT2 := S2.2.1 i hi (by simp)
    have eK : gK (ru_g xa xb P O A C (fun a => if a < 6 then ps a else 0) pt d F) (56 * s + i) = fo_kids P (56 * s) (C s) i := by
      show fo_kids P (56 * ((56 * s + i) / 56)) (C ((56 * s + i) / 56)) ((56 * s + i) % 56) = _
      rw [e1, e2]
    refine ⟨n2, hT2.1, by have := hT2.2.1; omega, by omega, fun c hc => ?_, ?_, fun z => ?_, fun z => (n6 z).2.2.2, fun z => (n7 z).2.2.1, fun z1 z2 => ?_, fun z => ?_⟩
    · rw [eK] at hc
      obtain ⟨j, j1, j2, j3, j4⟩ := fo_kf_mem (P := P) (C s) 0 hc
      rw [j3]
      refine ⟨ru_Vi hs (by omega) (by omega), ?_⟩
      unfold ru_pa
      rw [if_neg (by omega), (ru_dm (s := s) (i := j) (by omega)).1, j4]
      rfl
    · rw [eK]
      have := fo_kids_con S2 hi
      have e3 : 56 * s + (i + Z (56 * s + i)) = 56 * s + i + Z (56 * s + i) := by omega
      rw [e3] at this
      exact this
    · rw [eK]
      exact L (by simp) z
    · obtain ⟨w, w1, w2, _⟩ := (n7 (by have z2 : O (56 * s + i) ≤ 18 := z2; omega)).2.2.2.2.1 z1 z2
      show (xb (56 * s + i)).toNatClampNeg < 12
      rw [w2, nI_clamp (by omega)]
      exact w1
    · have z : O (56 * s + i) = 12 := z
      obtain ⟨t, t1, t2, t3⟩ := (n7 (by omega)).2.2.2.2.2 z
      obtain ⟨a1, a2, a3⟩ := ru_ba 14 (i + 1) (by omega) (fun j hj => (S2.1 j (by omega)).1) t3
      have eR : gR (ru_g xa xb P O A C (fun a => if a < 6 then ps a else 0) pt d F) (56 * s + i) = 56 * s + t := by
        show 56 * s + i - (xb (56 * s + i)).toNatClampNeg = _
        rw [t2, nI_clamp (by omega)]
        omega
      rw [eR]
      refine ⟨a1, fun S h1 h2 => a3 S (fun j hj => ?_) h2⟩
      have : j = i := by omega
      rw [this]; exact h1
  · have h0 : 0 < C a := by
      have hc : C a ≠ 0 := hc
      omega
    have hP0 := ((SL a (by omega)).2.1.1 0 h0).1
    refine ⟨ru_Vi (i := 0) (by omega) h0 (by decide), ?_⟩
    have : P (56 * a) = 0 := by
      have e : 56 * a + 0 = 56 * a := rfl
      rw [e] at hP0
      omega
    show ru_pa P (56 * a) = none
    unfold ru_pa
    rw [if_pos this]
  · exact ru_Vi (s := 6) (i := 0) (by decide) h6 (by decide)
  · have hP0 := ((SL 6 (by decide)).2.1.1 0 h6).1
    have : P 336 = 0 := by
      have hP0 : P 336 ≤ 0 := hP0
      omega
    show ru_pa P 336 = none
    unfold ru_pa
    rw [if_pos this]
  · show (if a < 6 then ps a else 0) ≤ 3
    split
    · exact hps a (by assumption)
    · exact Nat.zero_le _
end
