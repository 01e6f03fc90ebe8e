/-! every step keeps it: the steps -/
section
variable {g : mG} {V : Nat → Prop} {Z : Nat → Nat} {pa : Nat → Option Nat} {T : Nat}
theorem w_lx_all : ∀ {l : List Fr} {w : Nat}, w_l g V Z pa w l → ∀ {q : Fr} {p : Nat}, q ∈ l → pa (fr_nd q) = some p → ∃ q2, q2 ∈ l ∧ fr_nd q2 = p ∧ fr_ev q2 = fr_ev q
  | [], _, _, q, p, h, _ => by cases h
  | f :: r, w, W, q, p, h, e => by
    rcases List.mem_cons.mp h with z | z
    · subst z
      obtain ⟨_, _, _, _, _, _, _, f8, _⟩ := W.1
      rcases f8 with k | ⟨q2, a1, a2, a3⟩
      · rw [k] at e; cases e
      · refine ⟨q2, List.mem_cons_of_mem _ a1, ?_, a3⟩
        rw [a2] at e
        injection e
    · obtain ⟨q2, a1, a2⟩ := w_lx_all W.2 z e
      exact ⟨q2, List.mem_cons_of_mem _ a1, a2⟩
theorem w_ph11 {w : Nat} {f : Fr} (h : w_lk g w f) (hO : gO g (fr_nd f) = 11) : fr_ph f = 1 := by
  obtain ⟨⟨nd, ev, ph, rm⟩, ⟨gt, x0, x1, x2⟩, ⟨la, bv, bx, ty⟩, dt, sc, sr, tg, pl⟩ := f
  have hO : gO g nd = 11 := hO
  show ph = 1
  rcases h with h | h | h | h | h | h | h | h | h | h <;> omega
theorem u_f0 {f : Fr} (hr : fr_rm f = []) (hp : fr_ph f = 0) (hO : gO g (fr_nd f) ≠ 15) : u_f g Z f = 4 := by
  unfold u_f
  rw [hr, if_neg (by omega), if_neg (by omega)]
  rfl
theorem w_x3 {f : Fr} {r : List Fr} {s : St} {v : Int32} {h : Nat} (F : w_f g V Z pa 0 f r) (W : w_l g V Z pa 1 r) (hp : fr_ph f = 0) (hr : fr_rm f = []) (hO : gO g (fr_nd f) = 12 ∨ gO g (fr_nd f) = 14 ∨ gO g (fr_nd f) = 19) (hf : m_fc r ≤ gD g) (hs : w_s g s) (ht : w_tg g (some h) (f :: r)) : w_ok g V Z pa (2 + 1000 * (gF g - sBe s) + 4 + u_l g Z r) (sPr s + 1) (3, v, some h, 0, 0, f :: r, s) := by
  refine ⟨⟨by rw [w_fc_ne (by omega)]; exact hf, hs.1, hs.2, w_nf (by decide), fun z => (by cases z), fun z => (by cases z), fun z => (by cases z), fun _ => ⟨Or.inr ⟨f, r, rfl, ⟨F, W⟩, hO⟩, ht, fun z => (by cases z)⟩⟩, ?_, Nat.le_succ _⟩
  show 1 + 1000 * (gF g - sBe s) + (u_f g Z f + u_l g Z r) ≤ _
  rw [u_f0 hr hp (by omega)]
  omega
theorem w_app (G : g_w g V Z pa T) {f : Fr} {r : List Fr} {s : St} (F : w_f g V Z pa 0 f r) (W : w_l g V Z pa 1 r) (hp : fr_ph f = 0) (hr : fr_rm f = []) (hf : m_fc r ≤ gD g) (hs : w_s g s) : w_ok g V Z pa (2 + 1000 * (gF g - sBe s) + 4 + u_l g Z r) (sPr s + 1) (m_app g f r s) := by
  have F' := F
  obtain ⟨f1, f2, f3, f4, f5, f6, f7, f8, f9, f10⟩ := F'
  have N := G.1 _ f1
  obtain ⟨n1, n2, n3, n4, n5, n6, n7, n8, n9, n10, n11⟩ := N
  obtain ⟨_, G2, G3, G4, G5, G6, G7, G8, G9⟩ := G
  have D : ∀ v, w_ok g V Z pa (2 + 1000 * (gF g - sBe s) + 4 + u_l g Z r) (sPr s + 1) (m_dlv r v s) := fun v => w_ok_le (w_dlv W hf hs) (by omega) (Nat.le_succ _)
  have R : (gO g (fr_nd f) = 3 ∨ gO g (fr_nd f) = 14 ∨ (19 ≤ gO g (fr_nd f) ∧ gO g (fr_nd f) ≤ 21) ∨ (23 ≤ gO g (fr_nd f) ∧ gO g (fr_nd f) ≤ 25)) → ∀ t d, 1 ≤ t → t ≤ 15 → w_ok g V Z pa (2 + 1000 * (gF g - sBe s) + 4 + u_l g Z r) (sPr s + 1) (m_raise g f r t d s) := fun ho t d t1 t2 => w_ok_le (w_raise ⟨by assumption, G2, G3, G4, G5, G6, G7, G8, G9⟩ F W hp hr ho t1 t2 hf hs) (Nat.le_refl _) (Nat.le_succ _)
  unfold m_app m_apk
  split
  · exact D _
  · exact D _
  · exact D _
  · rename_i hO
    split
    · exact R (by omega) _ _ (by decide) (by decide)
    · exact D _
  · exact D _
  · exact D _
  · rename_i hO
    split
    · exact w_ok_le (w_dlv (s := s_lo s _) W hf hs) (by show 3 + 1000 * (gF g - sBe s) + u_l g Z r ≤ _; omega) (Nat.le_succ _)
    · split
      · rename_i r' hm
        have sh := m_set_sh hm
        obtain ⟨a1, a2, a3, a4⟩ := m_sh_fun (g := g) (Z := Z) sh
        refine w_ok_le (w_dlv (m_sh_w sh W) (by rw [← a2]; exact hf) hs) ?_ (Nat.le_succ _)
        rw [← a4]; omega
      · exact w_ok_le (w_dlv (s := s_gl s _) W hf hs) (by show 3 + 1000 * (gF g - sBe s) + u_l g Z r ≤ _; omega) (Nat.le_succ _)
  · rename_i hO
    obtain ⟨b1, b2⟩ := n11 hO
    have ex : ∃ q, q ∈ f :: r ∧ fr_nd q = gR g (fr_nd f) ∧ fr_ev q = fr_ev f := by
      refine b2 (fun m => ∃ q, q ∈ f :: r ∧ fr_nd q = m ∧ fr_ev q = fr_ev f) ⟨f, List.mem_cons_self .., rfl, rfl⟩ ?_
      rintro m p ⟨q, q1, q2, q3⟩ e
      rw [← q2] at e
      obtain ⟨q', c1, c2, c3⟩ := w_lx_all (w := 0) (l := f :: r) ⟨F, W⟩ q1 e
      exact ⟨q', c1, c2, by rw [c3]; exact q3⟩
    obtain ⟨q, q1, q2, q3⟩ := ex
    obtain ⟨h, hh⟩ := m_find_ex (p := fun q => decide (fr_nd q = gR g (fr_nd f) ∧ fr_ev q = fr_ev f)) q1 (by simp [q2, q3])
    rw [hh]
    refine w_x3 F W hp hr (Or.inl hO) hf hs ?_
    obtain ⟨p, r', d1, d2, d3⟩ := m_find_some hh
    intro k hk
    cases hk
    have d4 : fr_nd p = gR g (fr_nd f) ∧ fr_ev p = fr_ev f := of_decide_eq_true d3
    have hO2 : gO g (fr_nd p) = 11 := by rw [d4.1]; exact b1
    refine ⟨p, r', d1, d2, ?_, Or.inl hO2⟩
    rcases List.suffix_cons_iff.mp d1 with k | k
    · injection k with k1 k2
      rw [k1] at hO2; omega
    · exact w_ph11 (w_suf W k).1.2.2.1 hO2
  · rename_i hO
    split
    · rename_i h hh
      refine w_x3 F W hp hr (Or.inr (Or.inl hO)) hf hs ?_
      obtain ⟨p, r', d1, d2, d3⟩ := m_find_some hh
      have d4 := of_decide_eq_true d3
      intro k hk
      cases hk
      exact ⟨p, r', d1, d2, d4.1, Or.inr (Or.inl d4.2.1)⟩
    · exact R (by omega) _ _ (by decide) (by decide)
  · rename_i hO
    split
    · rename_i h hh
      refine w_x3 F W hp hr (Or.inr (Or.inr hO)) hf hs ?_
      obtain ⟨p, r', d1, d2, d3⟩ := m_find_some hh
      have d4 := of_decide_eq_true d3
      intro k hk
      cases hk
      exact ⟨p, r', d1, d2, d4.1, Or.inr (Or.inr (Or.inr d4.2.1))⟩
    · exact R (by omega) _ _ (by decide) (by decide)
  · rename_i hO
    have := (n9 (by omega)).2.2.2.1 (by omega)
    exact R (by omega) _ _ this.1 (by omega)
  · rename_i hO
    have := (n9 (by omega)).2.2.2.1 (by omega)
    exact R (by omega) _ _ this.1 (by omega)
  · exact w_ok_le (w_dlv (s := s_pr s _) W hf hs) (by show 3 + 1000 * (gF g - sBe s) + u_l g Z r ≤ _; omega) (Nat.le_refl _)
  · rename_i hO
    have hA := (n9 (by omega)).2.2.2.2.1 hO
    split
    · exact R (by omega) _ _ (by decide) (by decide)
    · rename_i c1
      split
      · exact R (by omega) _ _ (by decide) (by decide)
      · split
        · exact R (by omega) _ _ (by decide) (by decide)
        · rename_i c2 c3
          split
          · exact w_done (by decide) (Or.inr (Or.inr ⟨rfl, 0, F, W⟩)) (by rw [w_fc_ne (by omega)]; exact hf) hs (Nat.le_succ _)
          · rename_i c4
            obtain ⟨v1, v2⟩ := G2 _ hA c1
            obtain ⟨⟨nd, ev, ph, rm⟩, ⟨gt, x0, x1, x2⟩, ⟨la, bv, bx, ty⟩, dt, sc, sr, tg, pl⟩ := f
            have hr : rm = [] := hr
            have hp : ph = 0 := hp
            subst hr hp
            have hb : bv = 0 := by
              rcases f4 with z | ⟨_, _, z⟩
              · exact z
              · rcases z with ⟨z, _⟩ | z | z <;> cases z
            obtain ⟨r1, r2, r3, _⟩ := ‹∀ n, V n → g_nd g V Z pa T n› _ v1
            have r3 : Z (56 * gA g nd) ≤ 56 := r3
            obtain ⟨i1, i2⟩ := f9 (fun z => by cases z)
            have i1 : 2 * m_yh r + 3 * Z nd + 1 + w_kY g Z (m_ch g r) + 170 * (5 - m_fc r) ≤ 1040 := i1
            have i2 : 2 * r.length + 4 * Z nd + w_kX g Z (m_ch g r) + 224 * (5 - m_fc r) ≤ 1400 := i2
            have n2 : 1 ≤ Z nd := n2
            have hgt : gt ≤ 56 := by
              rcases f3 with h | h | h | h | h | h | h | h | h | h
              · obtain ⟨_, _, _, _, _, _, h7, _⟩ := h
                have := (w_ks (g := g) (V := V) (Z := Z) (pa := pa) (T := T) ⟨by assumption, G2, G3, G4, G5, G6, G7, G8, G9⟩ f1).2.1
                have : (gK g nd).length < 56 := this
                omega
              all_goals omega
            have Fn : w_f g V Z pa 1 ((nd, ev, 6, []), (gt, x0, x1, x2), (la, bv, bx, ty), dt, sc, sr, tg, pl) r := ⟨f1, f2, Or.inr (Or.inr (Or.inr (Or.inr (Or.inr (Or.inr (Or.inr (Or.inl ⟨rfl, hO, rfl, fun _ => hgt⟩))))))), Or.inl hb, fun z => (by rcases z with z | z <;> cases z), fun z => (by cases z), fun _ => f7 (fun z => by cases z), f8, fun _ => f9 (fun z => by cases z), fun z => (by cases z)⟩
            have efc : m_fc (((nd, ev, 6, []), (gt, x0, x1, x2), (la, bv, bx, ty), dt, sc, sr, tg, pl) :: r) = m_fc r + 1 := rfl
            refine w_ok_le (w_ev (T := T) ⟨by assumption, G2, G3, G4, G5, G6, G7, G8, G9⟩ v1 (by omega) ⟨Fn, W⟩ (Or.inl v2) ?_ (by omega) ?_ ⟨by show sBe s + 1 ≤ gF g; omega, hs.2⟩) ?_ (Nat.le_succ _)
            · refine ⟨?_, ?_⟩
              · show 2 * (m_yh r + 1) + 3 * Z (56 * gA g nd) + 1 + w_kY g Z (m_ch g r) + 170 * (5 - (m_fc r + 1)) ≤ 1040
                omega
              · show 2 * (r.length + 1) + 4 * Z (56 * gA g nd) + w_kX g Z (m_ch g r) + 224 * (5 - (m_fc r + 1)) ≤ 1400
                omega
            · intro q r' e
              injection e with e1 e2
              rw [← e1]
              exact ⟨by show (6 : Nat) ≠ 4; decide, by show (6 : Nat) ≠ 8; decide⟩
            · show 1000 * (gF g - (sBe s + 1)) + (u_f g Z ((nd, ev, 6, []), (gt, x0, x1, x2), (la, bv, bx, ty), dt, sc, sr, tg, pl) + u_l g Z r) + 16 * Z (56 * gA g nd) ≤ _
              rw [u_fT, if_neg (by omega), if_neg (by omega)]
              show 1000 * (gF g - (sBe s + 1)) + (4 + 16 * 0 + 0 + 0 + u_l g Z r) + 16 * Z (56 * gA g nd) ≤ _
              omega
  · rename_i hO
    split
    · exact R (by omega) _ _ (by decide) (by decide)
    · exact D _
  · rename_i hO
    have hA := (n9 (by omega)).2.2.2.2.2 (by omega)
    split
    · exact R (by omega) _ _ (by decide) (by decide)
    · rename_i c
      have hx : (fr_x0 f).toNatClampNeg < 16 := by
        obtain ⟨j, hj, e⟩ := fb_lt (x := fr_x0 f) 0 16 (fun z => c (Or.inl z)) (fun z => c (Or.inr z)) (by decide) (by decide)
        rw [e, nI_clamp (by omega)]; omega
      exact w_ok_le (w_dlv (s := s_ce s _) W hf ⟨hs.1, rl_Ce_upd hs.2 hA hx⟩) (by show 3 + 1000 * (gF g - sBe s) + u_l g Z r ≤ _; omega) (Nat.le_succ _)
  · exact D _
  · exact D _
end
