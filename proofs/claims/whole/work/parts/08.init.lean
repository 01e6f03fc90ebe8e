/-! the constructors -/
theorem rl_T_0 : rl_T (fun _ => 0) (fun _ => 0) (fun _ => 0) (fun _ => 0) (fun _ => 0) (fun _ => 0) (fun _ => 0) (fun _ => 0) 0 (fun _ => 0) (fun _ => 0) (fun _ => 0) (fun _ => 0) (fun _ => 0) (fun _ => 0) (fun _ => 0) (fun _ => 0) 0 (-1) 9 := by
  have fb : rl_Fb (fun _ => 0) := fun j => by show vp_nar .byte 0 = 0; rw [vp_nar_byte]; decide
  have sl : ∀ b, fo_Slot (fun _ => 0) (fun _ => 0) (fun _ => 0) (fun _ => 0) (fun _ => 0) (fun _ => 0) (fun _ => 0) (fun _ => 0) (fun _ => 0) (fun _ => 0) (fun _ => 0) (fun _ => 0) (fun _ => 0) (fun _ => 0) (fun _ => 0) 9 b 0 [] := fun b =>
    ⟨by decide, ⟨fun i h => absurd h (Nat.not_lt_zero _), fun i h => absurd h (Nat.not_lt_zero _), fun i h => by cases h⟩, fun i h => absurd h (Nat.not_lt_zero _), fun i h => absurd h (Nat.not_lt_zero _)⟩
  exact ⟨fun _ => 0, fun _ => 0, fun _ => 0, fun _ => 0, fun _ => 0, fun _ => 0, [], fun s _ => ⟨sl _, rfl, rfl, rfl, rfl, Nat.zero_le _⟩, sl _, trivial, by decide, trivial, rfl, rfl, rfl, rfl, fun o h => (by cases h), fb, fb, fb, fb, fb⟩
def rl_p0 (t : Nat) : Nat := if t = 2 then 1 else if 3 ≤ t ∧ t ≤ 9 then 2 else 0
theorem rl_Sp_0 : rl_Sp (fun _ => 0) (fun _ => 0) (fun _ => 0) (fun _ => 0) := fun j hj => ⟨Or.inl rfl, rfl, fun h => absurd rfl h⟩
theorem rl_Ce_0 : rl_Ce (fun _ => 0) := by
  intro a i ha hi
  show m_kb a 0 = 0
  unfold m_kb
  repeat' split
  all_goals decide
theorem rl_cl (p : Int32) (m : Nat) (hm : 1 ≤ m) (hm2 : m < 2 ^ 31) : ∃ n, 1 ≤ n ∧ n ≤ m ∧ (∀ post : Int32 → Prop, post (nI n) → wpX_clamped post p (nI m)) ∧ (∀ A B D : Prop, (p = nI n → A) → (nI m = nI n → B) → (1 = nI n → D) → ((1 ≤ p → ((p ≤ nI m → A) ∧ (¬ p ≤ nI m → B))) ∧ (¬ 1 ≤ p → D))) := by
  by_cases h : (1 : Int32) ≤ p
  · have h0 : ¬ p < 0 := fun z => absurd (Int32.lt_of_le_of_lt h z) (by decide)
    obtain ⟨j, hj, rfl⟩ := nI_of h0
    have hj1 : 1 ≤ j := by
      rcases Nat.eq_zero_or_pos j with z | z
      · subst z; exact absurd h (by decide)
      · exact z
    by_cases g : nI j ≤ nI m
    · rw [nI_leI hj hm2] at g
      refine ⟨j, hj1, g, fun post hp => br_t h (br_t (nI_le g hm2) hp), fun A B D a b d => br_t h (br_t (nI_le g hm2) (a rfl))⟩
    · exact ⟨m, hm, Nat.le_refl _, fun post hp => br_t h (br_f g hp), fun A B D a b d => br_t h (br_f g (b rfl))⟩
  · exact ⟨1, Nat.le_refl _, hm, fun post hp => br_f h hp, fun A B D a b d => br_f h (d rfl)⟩
theorem i_vc0 (k0 : Int32) (k1 : Int32) : wpX_init (fun u => wpY_init (fun v => i_Rel 2 u v) k0 k1) k0 k1 := by
  obtain ⟨d, d1, d2, dX, dY⟩ := rl_cl k0 5 (by decide) (by decide)
  obtain ⟨F, e1, e2, eX, eY⟩ := rl_cl k1 200 (by decide) (by decide)
  unfold wpX_init
  refine dX _ (eX _ ?_)
  refine nm_e ⟨8, ?_⟩
  iterate 7 (refine br_f (by decide) ⟨vp_in_iff.mpr (by decide), nm_e (nm_e ?_)⟩)
  refine br_t (by decide) ?_
  refine dY _ _ _ (fun z => ?_) (fun z => ?_) (fun z => ?_) <;> refine eY _ _ _ (fun w => ?_) (fun w => ?_) (fun w => ?_)
  all_goals
    refine nm_e ⟨8, ?_⟩
    iterate 7 (refine br_f (by decide) ⟨vp_in_iff.mpr (by decide), nm_e (nm_e ?_)⟩)
    refine br_t (by decide) ?_
    exact ⟨9, d, F, ⟨rfl, rfl, ⟨by decide, by decide, rl_p0, by decide +kernel⟩, rfl⟩, ⟨rfl, z, d1, d2⟩, ⟨rfl, w, e1, e2⟩, ⟨rfl, rfl, rfl, rfl, rfl⟩, ⟨rfl, rfl, rfl, rfl, rl_Ce_0⟩, rl_Sp_0, rl_T_0⟩
