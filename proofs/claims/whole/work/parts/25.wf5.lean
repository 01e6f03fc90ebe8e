/-! every step keeps it: going on, taking a value -/
theorem fo_drop_cons {l : List Nat} {k c : Nat} {cs : List Nat} (h : l.drop k = c :: cs) : cs = l.drop (k + 1) ∧ k + 1 ≤ l.length ∧ c ∈ l := by
  have hk : k < l.length := by
    rcases Nat.lt_or_ge k l.length with z | z
    · exact z
    · rw [List.drop_eq_nil_of_le z] at h; cases h
  rw [List.drop_eq_getElem_cons hk] at h
  injection h with h1 h2
  exact ⟨h2.symm, hk, by rw [← h1]; exact List.getElem_mem hk⟩
theorem fo_sum_two {Z : Nat → Nat} {l : List Nat} {k c : Nat} {cs : List Nat} (h : l.drop (k + 1) = c :: cs) : Z (l.getD 0 0) + Z c ≤ fo_sum Z l := by
  cases l with
  | nil => cases h
  | cons a t =>
    have h : t.drop k = c :: cs := h
    have := fo_sum_drop (Z := Z) k t
    rw [h] at this
    have e : fo_sum Z (c :: cs) = Z c + fo_sum Z cs := rfl
    show Z a + Z c ≤ Z a + fo_sum Z t
    omega
theorem fo_lst {g : mG} {V : Nat → Prop} {Z : Nat → Nat} {pa : Nat → Option Nat} {T n : Nat} (N : g_nd g V Z pa T n) {k : Nat} (h1 : gO g n ≤ 26) (h2 : fo_least (gO g n) = k) : k ≤ (gK g n).length := by
  obtain ⟨_, _, _, _, _, _, n7, _⟩ := N
  rw [← h2]; exact n7 h1
section
variable {g : mG} {V : Nat → Prop} {Z : Nat → Nat} {pa : Nat → Option Nat} {T : Nat}
theorem w_lk_cons {nd ev ph gt bv ty sr c : Nat} {cs : List Nat} {x0 x1 x2 la bx dt pl : Int32} {sc : List (Nat × Nat × Nat)} {tg : Option Nat} (h : w_lk g 0 ((nd, ev, ph, c :: cs), (gt, x0, x1, x2), (la, bv, bx, ty), dt, sc, sr, tg, pl)) : w_lk g 1 ((nd, ev, ph, cs), (gt, x0, x1, x2), (la, bv, bx, ty), dt, sc, sr, tg, pl) ∧ c ∈ gK g nd ∨ w_lk g 1 ((nd, ev, ph, cs), (gt, x0, x1, x2), (la, bv, bx, ty), dt, sc, sr, tg, pl) ∧ gO g nd = 6 ∧ ∃ j, (j = 1 ∨ j = 2) ∧ c = (gK g nd).getD j 0 := by
  rcases h with h | h | h | h | h | h | h | h | h | h
  · obtain ⟨h1, h2, h3, h4, h5, h6, h7, h8⟩ := h
    obtain ⟨a1, a2, a3⟩ := fo_drop_cons h6.symm
    exact Or.inl ⟨Or.inl ⟨h1, h2, h3, h4, h5, a1, a2, h8⟩, a3⟩
  · obtain ⟨h1, h2, h3⟩ := h
    rcases h3 with ⟨z, _⟩ | ⟨_, z2, j, z3, z4, z5⟩ | ⟨_, _, z⟩
    · cases z
    · injection z4 with z6 z7
      exact Or.inr ⟨Or.inr (Or.inl ⟨h1, h2, Or.inl ⟨rfl, z2, z7⟩⟩), h2, j, z3, z6⟩
    · cases z
  · obtain ⟨h1, h2, h3, h6, h7⟩ := h
    obtain ⟨a1, a2, a3⟩ := fo_drop_cons h6.symm
    exact Or.inl ⟨Or.inr (Or.inr (Or.inl ⟨h1, h2, h3, a1, a2⟩)), a3⟩
  · obtain ⟨h1, h2, h6, h7, h8⟩ := h
    obtain ⟨a1, a2, a3⟩ := fo_drop_cons h6.symm
    exact Or.inl ⟨Or.inr (Or.inr (Or.inr (Or.inl ⟨h1, h2, a1, a2, h8⟩))), a3⟩
  · obtain ⟨h1, h2, h3, h6, h7⟩ := h
    obtain ⟨a1, a2, a3⟩ := fo_drop_cons h6.symm
    exact Or.inl ⟨Or.inr (Or.inr (Or.inr (Or.inr (Or.inl ⟨h1, h2, h3, a1, a2⟩)))), a3⟩
  · exact absurd h.2.2 (by simp)
  · exact absurd h.2.2.1 (by simp)
  · exact absurd h.2.2.1 (by simp)
  · exact absurd h.2.2 (by simp)
  · exact absurd h.2.2 (by simp)
theorem w_lk_ph {w : Nat} {nd ev ph gt bv ty sr c : Nat} {cs : List Nat} {x0 x1 x2 la bx dt pl : Int32} {sc : List (Nat × Nat × Nat)} {tg : Option Nat} (h : w_lk g w ((nd, ev, ph, c :: cs), (gt, x0, x1, x2), (la, bv, bx, ty), dt, sc, sr, tg, pl)) : ph < 4 ∧ gO g nd ≤ 26 := by
  rcases h with h | h | h | h | h | h | h | h | h | h
  · exact ⟨by omega, by omega⟩
  · exact ⟨by omega, by omega⟩
  · exact ⟨by omega, by omega⟩
  · exact ⟨by omega, by omega⟩
  · exact ⟨by omega, by omega⟩
  · exact absurd h.2.2 (by simp)
  · exact absurd h.2.2.1 (by simp)
  · exact absurd h.2.2.1 (by simp)
  · exact absurd h.2.2 (by simp)
  · exact absurd h.2.2 (by simp)
theorem u_f4 (f : Fr) : 4 ≤ u_f g Z f := by
  unfold u_f
  omega
theorem w_lk_hs {w : Nat} {nd ev ph gt bv ty sr : Nat} {rm : List Nat} {x0 x1 x2 la bx dt pl : Int32} {sc : List (Nat × Nat × Nat)} {tg : Option Nat} (h : w_lk g w ((nd, ev, ph, rm), (gt, x0, x1, x2), (la, bv, bx, ty), dt, sc, sr, tg, pl)) (h1 : ph = 1) (h2 : 16 ≤ gO g nd) (h3 : gO g nd ≤ 18) : rm = (gK g nd).drop (gt + 1 + w) ∧ gt + 1 + w ≤ (gK g nd).length := by
  rcases h with h | h | h | h | h | h | h | h | h | h
  · omega
  · omega
  · exact ⟨h.2.2.2.1, h.2.2.2.2⟩
  all_goals omega
theorem w_pro (G : g_w g V Z pa T) {f : Fr} {r : List Fr} {s : St} (F : w_f g V Z pa 0 f r) (W : w_l g V Z pa 1 r) (h4 : fr_ph f ≠ 4) (h8 : fr_ph f ≠ 8) (hf : m_fc (f :: r) ≤ gD g) (hs : w_s g s) : w_ok g V Z pa (2 + 1000 * (gF g - sBe s) + u_f g Z f + u_l g Z r) (sPr s + 1) (m_pro g f r s) := by
  have hfr : m_fc r ≤ gD g := Nat.le_trans (Nat.le_add_right _ _) hf
  have u4 := u_f4 (g := g) (Z := Z) f
  have F' := F
  obtain ⟨⟨nd, ev, ph, rm⟩, ⟨gt, x0, x1, x2⟩, ⟨la, bv, bx, ty⟩, dt, sc, sr, tg, pl⟩ := f
  have h4 : ph ≠ 4 := h4
  have h8 : ph ≠ 8 := h8
  obtain ⟨f1, f2, f3, f4, f5, f6, f7, f8, f9, f10⟩ := F'
  have f1 : V nd := f1
  have f2 : ev ≤ 5 := f2
  have N := G.1 nd f1
  cases rm with
  | cons c cs =>
    obtain ⟨p1, p2⟩ := w_lk_ph f3
    obtain ⟨k1, k2, k3⟩ := w_ks G (n := nd) f1
    have hc : c ∈ gK g nd := by
      rcases w_lk_cons f3 with z | ⟨_, z, j, z1, z2⟩
      · exact z.2
      · have := fo_lst (k := 3) N (by omega) (by rw [z]; rfl)
        rw [z2]; exact fo_getj (by omega)
    have hl : w_lk g 1 ((nd, ev, ph, cs), (gt, x0, x1, x2), (la, bv, bx, ty), dt, sc, sr, tg, pl) := by
      rcases w_lk_cons f3 with z | z
      · exact z.1
      · exact z.1
    obtain ⟨n1, n2, n3, n4, n5, n6, n7, _⟩ := N
    obtain ⟨v1, v2⟩ := n5 c hc
    have hZc := fo_sum_mem (Z := Z) hc
    obtain ⟨i1, i2⟩ := f9 (by show ph ≠ 7; omega)
    have i1 : 2 * m_yh r + 3 * Z nd + 1 + w_kY g Z (m_ch g r) + 170 * (5 - m_fc r) ≤ 1040 := i1
    have i2 : 2 * r.length + 4 * Z nd + w_kX g Z (m_ch g r) + 224 * (5 - m_fc r) ≤ 1400 := i2
    have Fn : w_f g V Z pa 1 ((nd, ev, ph, cs), (gt, x0, x1, x2), (la, bv, bx, ty), dt, sc, sr, tg, pl) r := ⟨f1, f2, hl, f4, f5, f6, f7, f8, f9, f10⟩
    have ey : m_yh (((nd, ev, ph, cs), (gt, x0, x1, x2), (la, bv, bx, ty), dt, sc, sr, tg, pl) :: r) = m_yh r + 1 := by
      show m_yh r + (if ph = 7 then 0 else if ph = 4 then 2 else 1) = m_yh r + 1
      rw [if_neg (by omega), if_neg (by omega)]
    have ef : m_fc (((nd, ev, ph, cs), (gt, x0, x1, x2), (la, bv, bx, ty), dt, sc, sr, tg, pl) :: r) = m_fc r := w_fc_ne (by show ph ≠ 6; omega)
    have eu : u_f g Z ((nd, ev, ph, c :: cs), (gt, x0, x1, x2), (la, bv, bx, ty), dt, sc, sr, tg, pl) = u_f g Z ((nd, ev, ph, cs), (gt, x0, x1, x2), (la, bv, bx, ty), dt, sc, sr, tg, pl) + 16 * Z c := by
      rw [u_fT, u_fT]
      show 4 + 16 * (Z c + fo_sum Z cs) + _ + _ = _
      omega
    refine w_ok_le (w_ev G (s := s) v1 f2 ⟨Fn, W⟩ (Or.inr ⟨_, List.mem_cons_self .., v2, rfl⟩) ?_ (by rw [ef]; exact hfr) ?_ hs) ?_ (Nat.le_succ _)
    · unfold w_iq
      rw [ey, ef]
      by_cases c1 : ph = 1 ∧ (gO g nd = 16 ∨ gO g nd = 17)
      · have ec : m_ch g (((nd, ev, ph, cs), (gt, x0, x1, x2), (la, bv, bx, ty), dt, sc, sr, tg, pl) :: r) = (r.length, nd, ev) :: m_ch g r := by
          show (if ph = 7 then sc else if ph = 1 ∧ (gO g nd = 16 ∨ gO g nd = 17) then (r.length, nd, ev) :: m_ch g r else m_ch g r) = _
          rw [if_neg (by omega), if_pos c1]
        rw [ec]
        have hh := w_lk_hs f3 c1.1 (by omega) (by omega)
        have h2 := fo_sum_two (Z := Z) (k := gt) hh.1.symm
        refine ⟨?_, ?_⟩
        · show 2 * (m_yh r + 1) + 3 * Z c + 1 + ((if gO g nd = 16 then 3 * Z ((gK g nd).getD 0 0) + 1 else 0) + w_kY g Z (m_ch g r)) + 170 * (5 - m_fc r) ≤ 1040
          split <;> omega
        · show 2 * (r.length + 1) + 4 * Z c + ((if gO g nd = 16 then 4 * Z ((gK g nd).getD 0 0) + 2 else 0) + w_kX g Z (m_ch g r)) + 224 * (5 - m_fc r) ≤ 1400
          split <;> omega
      · have ec : m_ch g (((nd, ev, ph, cs), (gt, x0, x1, x2), (la, bv, bx, ty), dt, sc, sr, tg, pl) :: r) = m_ch g r := by
          show (if ph = 7 then sc else if ph = 1 ∧ (gO g nd = 16 ∨ gO g nd = 17) then (r.length, nd, ev) :: m_ch g r else m_ch g r) = _
          rw [if_neg (by omega), if_neg c1]
        rw [ec]
        refine ⟨by omega, ?_⟩
        show 2 * (r.length + 1) + 4 * Z c + w_kX g Z (m_ch g r) + 224 * (5 - m_fc r) ≤ 1400
        omega
    · intro q r' e
      injection e with e1 e2
      rw [← e1]
      exact ⟨h4, h8⟩
    · show 1000 * (gF g - sBe s) + (u_f g Z ((nd, ev, ph, cs), (gt, x0, x1, x2), (la, bv, bx, ty), dt, sc, sr, tg, pl) + u_l g Z r) + 16 * Z c ≤ _
      omega
  | nil =>
    have D : ∀ v, w_ok g V Z pa (2 + 1000 * (gF g - sBe s) + u_f g Z ((nd, ev, ph, []), (gt, x0, x1, x2), (la, bv, bx, ty), dt, sc, sr, tg, pl) + u_l g Z r) (sPr s + 1) (m_dlv r v s) := fun v => w_ok_le (w_dlv W hfr hs) (by omega) (Nat.le_succ _)
    have hph : ph = 0 ∨ ph = 1 ∨ ph = 2 ∨ ph = 3 ∨ ∃ k, ph = k + 4 := by
      rcases Nat.lt_or_ge ph 4 with z | z
      · omega
      · exact Or.inr (Or.inr (Or.inr (Or.inr ⟨ph - 4, by omega⟩)))
    rcases hph with rfl | rfl | rfl | rfl | ⟨k, rfl⟩
    · exact w_ok_le (w_app G F W rfl rfl hfr hs) (by omega) (Nat.le_refl _)
    · show w_ok g V Z pa _ _ (if gO g nd = 10 then (if sBe s < gF g then (0, 0, none, 0, 0, m_new g nd ev :: r, s_be s (sBe s + 1)) else (6, 0, none, 0, 0, ((nd, ev, 1, []), (gt, x0, x1, x2), (la, bv, bx, ty), dt, sc, sr, tg, pl) :: r, s)) else m_dlv r la s)
      split
      · rename_i hO
        split
        · rename_i hb
          obtain ⟨a1, a2, a3⟩ := w_new G (n := nd) (e := ev) f1 (by omega) f2 f8 (f9 (by show (1 : Nat) ≠ 7; decide)) (f7 (by show (1 : Nat) ≠ 7; decide))
          obtain ⟨_, n2, n3, _⟩ := N
          have hn : fr_ph (m_new g nd ev) = 0 := if_neg (by omega)
          refine ⟨⟨by rw [w_fc_ne (by omega)]; exact hfr, hb, hs.2, w_nf (by decide), fun _ => ⟨_, r, rfl, Or.inl hn, ⟨a1, W⟩, fun _ => ⟨hn, rfl, Nat.succ_le_succ (Nat.zero_le _)⟩, Or.inr rfl⟩, fun z => (by cases z), fun z => (by cases z), fun z => (by cases z)⟩, ?_, Nat.le_succ _⟩
          show 3 + 1000 * (gF g - (sBe s + 1)) + (u_f g Z (m_new g nd ev) + u_l g Z r) ≤ _
          omega
        · exact w_done (by decide) (Or.inr (Or.inr ⟨rfl, 0, F, W⟩)) hf hs (Nat.le_succ _)
      · exact D _
    · exact D _
    · refine ⟨⟨hfr, hs.1, hs.2, w_nf (by decide), fun z => (by cases z), fun z => (by cases z), fun z => (by cases z), fun _ => ⟨Or.inl W, f10 rfl⟩⟩, ?_, Nat.le_succ _⟩
      show 1 + 1000 * (gF g - sBe s) + u_l g Z r ≤ _
      omega
    · exact D _
theorem w_take (G : g_w g V Z pa T) {f : Fr} {r : List Fr} {v : Int32} (F : w_f g V Z pa 1 f r) (h4 : fr_ph f ≠ 4) (h8 : fr_ph f ≠ 8) : w_f g V Z pa 0 (m_take g f v) r ∧ fr_ph (m_take g f v) ≠ 4 ∧ fr_ph (m_take g f v) ≠ 8 ∧ m_fc (m_take g f v :: r) = m_fc (f :: r) ∧ u_f g Z (m_take g f v) ≤ u_f g Z f := by
  obtain ⟨⟨nd, ev, ph, rm⟩, ⟨gt, x0, x1, x2⟩, ⟨la, bv, bx, ty⟩, dt, sc, sr, tg, pl⟩ := f
  have h4 : ph ≠ 4 := h4
  have h8 : ph ≠ 8 := h8
  obtain ⟨f1, f2, f3, f4, f5, f6, f7, f8, f9, f10⟩ := F
  have f1 : V nd := f1
  have N := G.1 nd f1
  by_cases p0 : ph = 0
  · subst p0
    have f3 : (gO g nd ≤ 26 ∧ gO g nd ≠ 7 ∧ gO g nd ≠ 11 ∧ ¬ (16 ≤ gO g nd ∧ gO g nd ≤ 18) ∧ rm = (gK g nd).drop (gt + 1) ∧ gt + 1 ≤ (gK g nd).length ∧ (gO g nd = 6 ∨ gO g nd = 9 ∨ gO g nd = 10 ∨ gO g nd = 13 ∨ gO g nd = 15 → gt = 0)) := by
      rcases f3 with h | h | h | h | h | h | h | h | h | h
      · exact h.2
      all_goals omega
    obtain ⟨k1, k2, k3, k4, k5, k6, k7⟩ := f3
    have hb : bv = 0 := by
      rcases f4 with z | ⟨_, _, z⟩
      · exact z
      · rcases z with ⟨z, _⟩ | z | z <;> cases z
    have e : m_take g ((nd, ev, 0, rm), (gt, x0, x1, x2), (la, bv, bx, ty), dt, sc, sr, tg, pl) v = (if gO g nd = 6 then ((nd, ev, 1, [(gK g nd).getD (if v = 0 then 2 else 1) 0]), (gt + 1, v, x1, x2), (0, bv, bx, ty), dt, sc, sr, tg, pl)
      else if gO g nd = 10 then ((nd, ev, 1, rm), (gt + 1, x0, x1, x2), (0, bv, bx, ty), dt, sc, sr, tg, pl)
      else if gO g nd = 9 then ((nd, ev, 1, rm), (gt + 1, v, x1, x2), (0, gA g nd, v, ty), dt, sc, sr, tg, pl)
      else if gO g nd = 13 then ((nd, ev, 1, rm), (gt + 1, v, x1, x2), (0, bv, bx, ty), dt, sc, sr, tg, pl)
      else if gO g nd = 15 then ((nd, ev, 2, rm), (gt + 1, v, x1, x2), (la, bv, bx, ty), dt, sc, sr, tg, pl)
      else ((nd, ev, 0, rm), (gt + 1, (if gt = 0 then v else x0), (if gt = 1 then v else x1), (if gt = 2 then v else x2)), (la, bv, bx, ty), dt, sc, sr, tg, pl)) := rfl
    rw [e]
    have n7 : (0 : Nat) ≠ 7 := by decide
    by_cases o6 : gO g nd = 6
    · rw [if_pos o6]
      have hl := fo_lst (k := 3) N (by omega) (by rw [o6]; rfl)
      have hg := k7 (Or.inl o6)
      subst hg
      have hj : ∃ j, (if v = 0 then 2 else 1) = j ∧ (j = 1 ∨ j = 2) ∧ v = (if j = 2 then 0 else v) ∧ (j = 1 → v ≠ 0) := by
        by_cases hv : v = 0
        · exact ⟨2, if_pos hv, Or.inr rfl, hv, fun z => by cases z⟩
        · exact ⟨1, if_neg hv, Or.inl rfl, rfl, fun _ => hv⟩
      obtain ⟨j, j1, j2, j3, j4⟩ := hj
      rw [j1]
      refine ⟨⟨f1, f2, Or.inr (Or.inl ⟨rfl, o6, Or.inr (Or.inl ⟨rfl, rfl, j, j2, rfl, j3, j4⟩)⟩), Or.inl hb, fun z => ?_, fun z => ?_, fun _ => f7 n7, f8, fun _ => f9 n7, fun z => ?_⟩, (by show (1 : Nat) ≠ 4; decide), (by show (1 : Nat) ≠ 8; decide), rfl, ?_⟩
      · rcases z with z | z <;> cases z
      · cases z
      · cases z
      · rw [u_fT, u_fT, if_neg (by omega), if_neg (by omega), if_neg (by omega), if_neg (by omega), fo_sum_1, k5]
        have hm : (gK g nd).getD j 0 ∈ (gK g nd).drop (0 + 1) := by
          cases hK : gK g nd with
          | nil => rw [hK] at hl; exact absurd hl (by decide)
          | cons a t =>
            rw [hK] at hl
            have hl : 3 ≤ t.length + 1 := hl
            obtain ⟨i, rfl⟩ : ∃ i, j = i + 1 := ⟨j - 1, by omega⟩
            show t.getD i 0 ∈ t
            exact fo_getj (by omega)
        have := fo_sum_mem (Z := Z) hm
        omega
    · rw [if_neg o6]
      by_cases o10 : gO g nd = 10
      · rw [if_pos o10]
        refine ⟨⟨f1, f2, Or.inr (Or.inr (Or.inr (Or.inl ⟨rfl, Or.inr (Or.inr (Or.inl o10)), k5, k6, fun _ => Nat.succ_le_succ (Nat.zero_le _)⟩))), Or.inl hb, fun z => ?_, fun z => ?_, fun _ => f7 n7, f8, fun _ => f9 n7, fun z => ?_⟩, (by show (1 : Nat) ≠ 4; decide), (by show (1 : Nat) ≠ 8; decide), rfl, ?_⟩
        · rcases z with z | z <;> cases z
        · cases z
        · cases z
        · rw [u_fT, u_fT, if_neg (by omega), if_neg (by omega), if_neg (by omega), if_neg (by omega)]
          omega
      · rw [if_neg o10]
        by_cases o9 : gO g nd = 9
        · rw [if_pos o9]
          obtain ⟨_, _, _, _, _, _, _, _, n9, _⟩ := N
          have ha := (n9 (by omega)).2.1 (Or.inl o9)
          refine ⟨⟨f1, f2, Or.inr (Or.inr (Or.inr (Or.inl ⟨rfl, Or.inr (Or.inl o9), k5, k6, fun _ => Nat.succ_le_succ (Nat.zero_le _)⟩))), Or.inr ⟨ha.1, ha.2, Or.inl ⟨rfl, o9⟩⟩, fun z => ?_, fun z => ?_, fun _ => f7 n7, f8, fun _ => f9 n7, fun z => ?_⟩, (by show (1 : Nat) ≠ 4; decide), (by show (1 : Nat) ≠ 8; decide), rfl, ?_⟩
          · rcases z with z | z <;> cases z
          · cases z
          · cases z
          · rw [u_fT, u_fT, if_neg (by omega), if_neg (by omega), if_neg (by omega), if_neg (by omega)]
            omega
        · rw [if_neg o9]
          by_cases o13 : gO g nd = 13
          · rw [if_pos o13]
            refine ⟨⟨f1, f2, Or.inr (Or.inr (Or.inr (Or.inl ⟨rfl, Or.inr (Or.inr (Or.inr (Or.inr o13))), k5, k6, fun _ => Nat.succ_le_succ (Nat.zero_le _)⟩))), Or.inl hb, fun z => ?_, fun z => ?_, fun _ => f7 n7, f8, fun _ => f9 n7, fun z => ?_⟩, (by show (1 : Nat) ≠ 4; decide), (by show (1 : Nat) ≠ 8; decide), rfl, ?_⟩
            · rcases z with z | z <;> cases z
            · cases z
            · cases z
            · rw [u_fT, u_fT, if_neg (by omega), if_neg (by omega), if_neg (by omega), if_neg (by omega)]
              omega
          · rw [if_neg o13]
            by_cases o15 : gO g nd = 15
            · rw [if_pos o15]
              refine ⟨⟨f1, f2, Or.inr (Or.inr (Or.inr (Or.inr (Or.inl ⟨Or.inl rfl, o15, Nat.succ_le_succ (Nat.zero_le _), k5, k6⟩)))), Or.inl hb, fun z => ?_, fun z => ?_, fun _ => f7 n7, f8, fun _ => f9 n7, fun z => ?_⟩, (by show (2 : Nat) ≠ 4; decide), (by show (2 : Nat) ≠ 8; decide), rfl, ?_⟩
              · rcases z with z | z <;> cases z
              · cases z
              · cases z
              · rw [u_fT, u_fT, if_neg (by omega), if_neg (by omega), if_neg (by omega)]
                omega
            · rw [if_neg o15]
              refine ⟨⟨f1, f2, Or.inl ⟨rfl, k1, k2, k3, k4, k5, k6, fun z => by omega⟩, Or.inl hb, fun z => ?_, fun z => ?_, fun _ => f7 n7, f8, fun _ => f9 n7, fun z => ?_⟩, (by show (0 : Nat) ≠ 4; decide), (by show (0 : Nat) ≠ 8; decide), rfl, ?_⟩
              · rcases z with z | z <;> cases z
              · cases z
              · cases z
              · rw [u_fT, u_fT]
                exact Nat.le_refl _
  · have e : m_take g ((nd, ev, ph, rm), (gt, x0, x1, x2), (la, bv, bx, ty), dt, sc, sr, tg, pl) v = ((nd, ev, ph, rm), (gt + 1, x0, x1, x2), (v, bv, bx, ty), dt, sc, sr, tg, pl) := by
      cases ph with
      | zero => exact absurd rfl p0
      | succ k => rfl
    rw [e]
    refine ⟨⟨f1, f2, ?_, f4, f5, f6, f7, f8, f9, f10⟩, h4, h8, rfl, ?_⟩
    · rcases f3 with h | h | h | h | h | h | h | h | h | h
      · exact absurd h.1 p0
      · obtain ⟨h1, h2, h3⟩ := h
        rcases h3 with ⟨z1, z2, z3⟩ | ⟨z, _⟩ | ⟨z, _⟩
        · exact Or.inr (Or.inl ⟨h1, h2, Or.inr (Or.inr ⟨rfl, by omega, z3⟩)⟩)
        · cases z
        · cases z
      · obtain ⟨h1, h2, h3, h6, h7⟩ := h
        exact Or.inr (Or.inr (Or.inl ⟨h1, h2, h3, h6, h7⟩))
      · obtain ⟨h1, h2, h6, h7, h8⟩ := h
        exact Or.inr (Or.inr (Or.inr (Or.inl ⟨h1, h2, h6, h7, fun z => Nat.le_succ_of_le (h8 z)⟩)))
      · obtain ⟨h1, h2, h3, h6, h7⟩ := h
        exact Or.inr (Or.inr (Or.inr (Or.inr (Or.inl ⟨h1, h2, Nat.le_succ_of_le h3, h6, h7⟩))))
      · exact absurd h.1 h4
      · obtain ⟨h1, h2, h3, h6⟩ := h
        exact Or.inr (Or.inr (Or.inr (Or.inr (Or.inr (Or.inr (Or.inl ⟨h1, h2, h3, h6⟩))))))
      · obtain ⟨h1, h2, h3, h6⟩ := h
        exact Or.inr (Or.inr (Or.inr (Or.inr (Or.inr (Or.inr (Or.inr (Or.inl ⟨h1, h2, h3, fun z => by cases z⟩)))))))
      · exact Or.inr (Or.inr (Or.inr (Or.inr (Or.inr (Or.inr (Or.inr (Or.inr (Or.inl h))))))))
      · exact absurd h.1 h8
    · rw [u_fT, u_fT]
      exact Nat.le_refl _
end
