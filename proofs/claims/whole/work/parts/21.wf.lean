/-! what holds of every state that the machine reaches -/
def g_nd (g : mG) (V : Nat → Prop) (Z : Nat → Nat) (pa : Nat → Option Nat) (T n : Nat) : Prop :=
  gO g n ≤ 28 ∧ 1 ≤ Z n ∧ Z n ≤ 56 ∧ n < 392 ∧ (∀ c, c ∈ gK g n → V c ∧ pa c = some n) ∧ fo_con Z (n + Z n) (n + 1) (gK g n) ∧
  (gO g n ≤ 26 → fo_least (gO g n) ≤ (gK g n).length) ∧ (gO g n = 28 → gA g n < 12) ∧ (gO g n ≤ 26 → fo_ar T (gO g n) (gA g n)) ∧
  (16 ≤ gO g n → gO g n ≤ 18 → gB g n < 12) ∧ (gO g n = 12 → gO g (gR g n) = 11 ∧ ∀ S : Nat → Prop, S n → (∀ m p, S m → pa m = some p → S p) → S (gR g n))
def g_w (g : mG) (V : Nat → Prop) (Z : Nat → Nat) (pa : Nat → Option Nat) (T : Nat) : Prop :=
  (∀ n, V n → g_nd g V Z pa T n) ∧ (∀ a, a < 6 → gC g a ≠ 0 → V (56 * a) ∧ pa (56 * a) = none) ∧ V 336 ∧ pa 336 = none ∧ 1 ≤ gD g ∧ gD g ≤ 5 ∧ gF g ≤ 200 ∧ T ≤ 15 ∧ (∀ a, gP g a ≤ 3)
def w_kY (g : mG) (Z : Nat → Nat) : List (Nat × Nat × Nat) → Nat
  | [] => 0
  | (_, n, _) :: t => (if gO g n = 16 then 3 * Z ((gK g n).getD 0 0) + 1 else 0) + w_kY g Z t
def w_kX (g : mG) (Z : Nat → Nat) : List (Nat × Nat × Nat) → Nat
  | [] => 0
  | (_, n, _) :: t => (if gO g n = 16 then 4 * Z ((gK g n).getD 0 0) + 2 else 0) + w_kX g Z t
def w_iq (g : mG) (Z : Nat → Nat) (n : Nat) (l : List Fr) : Prop :=
  2 * m_yh l + 3 * Z n + 1 + w_kY g Z (m_ch g l) + 170 * (5 - m_fc l) ≤ 1040 ∧ 2 * l.length + 4 * Z n + w_kX g Z (m_ch g l) + 224 * (5 - m_fc l) ≤ 1400
def w_lx (pa : Nat → Option Nat) (n e : Nat) (l : List Fr) : Prop := pa n = none ∨ ∃ q, q ∈ l ∧ pa n = some (fr_nd q) ∧ fr_ev q = e
def w_tg (g : mG) (tgt : Option Nat) (l : List Fr) : Prop := ∀ h, tgt = some h → ∃ q r', (q :: r') <:+ l ∧ r'.length = h ∧ fr_ph q = 1 ∧ (gO g (fr_nd q) = 11 ∨ gO g (fr_nd q) = 13 ∨ gO g (fr_nd q) = 17 ∨ gO g (fr_nd q) = 18)
def w_tp (tgt : Option Nat) (t : Nat) (p : Int32) : Prop := tgt = none → t ≤ 15 ∧ ∃ k, k < 1000 ∧ p = nI k
def w_lk (g : mG) (w : Nat) (f : Fr) : Prop := match f with
  | ((nd, ev, ph, rm), (gt, x0, x1, x2), (la, bv, bx, ty), dt, sc, sr, tg, pl) =>
    (ph = 0 ∧ gO g nd ≤ 26 ∧ gO g nd ≠ 7 ∧ gO g nd ≠ 11 ∧ ¬ (16 ≤ gO g nd ∧ gO g nd ≤ 18) ∧ rm = (gK g nd).drop (gt + w) ∧ gt + w ≤ (gK g nd).length ∧ (gO g nd = 6 ∨ gO g nd = 9 ∨ gO g nd = 10 ∨ gO g nd = 13 ∨ gO g nd = 15 → gt = 0)) ∨
    (ph = 1 ∧ gO g nd = 6 ∧ ((w = 1 ∧ gt = 1 ∧ rm = []) ∨ (w = 0 ∧ gt = 1 ∧ ∃ j, (j = 1 ∨ j = 2) ∧ rm = [(gK g nd).getD j 0] ∧ x0 = (if j = 2 then 0 else x0) ∧ (j = 1 → x0 ≠ 0)) ∨ (w = 0 ∧ gt = 2 ∧ rm = []))) ∨
    (ph = 1 ∧ 16 ≤ gO g nd ∧ gO g nd ≤ 18 ∧ rm = (gK g nd).drop (gt + 1 + w) ∧ gt + 1 + w ≤ (gK g nd).length) ∨
    (ph = 1 ∧ (gO g nd = 7 ∨ gO g nd = 9 ∨ gO g nd = 10 ∨ gO g nd = 11 ∨ gO g nd = 13) ∧ rm = (gK g nd).drop (gt + w) ∧ gt + w ≤ (gK g nd).length ∧ (gO g nd = 9 ∨ gO g nd = 10 ∨ gO g nd = 13 → 1 ≤ gt)) ∨
    ((ph = 2 ∨ ph = 3) ∧ gO g nd = 15 ∧ 1 ≤ gt ∧ rm = (gK g nd).drop (gt + w) ∧ gt + w ≤ (gK g nd).length) ∨
    (ph = 4 ∧ (gO g nd = 3 ∨ gO g nd = 14 ∨ (19 ≤ gO g nd ∧ gO g nd ≤ 21) ∨ (23 ≤ gO g nd ∧ gO g nd ≤ 25)) ∧ rm = []) ∨
    (ph = 5 ∧ (gO g nd = 17 ∨ gO g nd = 18) ∧ rm = [] ∧ gt + w = 1) ∨
    (ph = 6 ∧ gO g nd = 23 ∧ rm = [] ∧ (w = 1 → gt ≤ 56)) ∨
    (ph = 7 ∧ gO g nd = 16 ∧ rm = []) ∨
    (ph = 8 ∧ gO g nd = 28 ∧ rm = [])
def w_sg (g : mG) (f : Fr) (r : List Fr) : Prop := fr_ph f = 4 ∨ fr_ph f = 8 → fr_sc f <:+ m_ch g r ∧ fr_sr f ≤ r.length ∧ m_ch g (r.drop (r.length - fr_sr f)) = fr_sc f ∧ 1 ≤ fr_ty f ∧ fr_ty f ≤ 15 ∧ ∀ q r', r.drop (r.length - fr_sr f) = q :: r' → fr_ph q ≠ 4 ∧ fr_ph q ≠ 8
def w_hd (f : Fr) (r : List Fr) : Prop := fr_ph f = 7 → ∃ q r', r = q :: r' ∧ (fr_ph q = 4 ∨ fr_ph q = 8) ∧ fr_sc q = fr_sc f
def w_nx (f : Fr) (r : List Fr) : Prop := fr_ph f ≠ 7 → ∀ q r', r = q :: r' → fr_ph q ≠ 4 ∧ fr_ph q ≠ 8
def w_bd (g : mG) (f : Fr) : Prop := fr_bv f = 0 ∨ (8 ≤ fr_bv f ∧ fr_bv f < 12 ∧ ((fr_ph f = 1 ∧ gO g (fr_nd f) = 9) ∨ fr_ph f = 5 ∨ fr_ph f = 7))
def w_f (g : mG) (V : Nat → Prop) (Z : Nat → Nat) (pa : Nat → Option Nat) (w : Nat) (f : Fr) (r : List Fr) : Prop :=
  V (fr_nd f) ∧ fr_ev f ≤ 5 ∧ w_lk g w f ∧ w_bd g f ∧ w_sg g f r ∧ w_hd f r ∧ w_nx f r ∧ w_lx pa (fr_nd f) (fr_ev f) r ∧ (fr_ph f ≠ 7 → w_iq g Z (fr_nd f) r) ∧ (fr_ph f = 3 → w_tg g (fr_tg f) r ∧ w_tp (fr_tg f) (fr_ty f) (fr_pl f))
def w_l (g : mG) (V : Nat → Prop) (Z : Nat → Nat) (pa : Nat → Option Nat) : Nat → List Fr → Prop
  | _, [] => True
  | w, f :: r => w_f g V Z pa w f r ∧ w_l g V Z pa 1 r
def w_m (g : mG) (V : Nat → Prop) (Z : Nat → Nat) (pa : Nat → Option Nat) (m : MS) : Prop := match m with
  | (t, _, tgt, ty, p, l, s) => m_fc l ≤ gD g ∧ sBe s ≤ gF g ∧ rl_Ce (sCe s) ∧
    (4 ≤ t → (t = 4 ∧ l = []) ∨ (t = 5 ∧ l = []) ∨ (t = 6 ∧ ∃ w, w_l g V Z pa w l)) ∧
    (t = 0 → ∃ f r, l = f :: r ∧ (fr_ph f = 0 ∨ fr_ph f = 1 ∨ fr_ph f = 3) ∧ w_l g V Z pa 0 l ∧ (gO g (fr_nd f) = 10 → fr_ph f = 0 ∧ fr_gt f = 0 ∧ 1 ≤ sBe s) ∧ (fr_ph f = 3 ∨ fr_gt f = 0)) ∧
    (t = 1 → l ≠ [] ∧ w_l g V Z pa 1 l) ∧
    (t = 2 → ∃ f r, l = f :: r ∧ (fr_ph f = 4 ∨ fr_ph f = 8) ∧ w_l g V Z pa 1 l) ∧
    (t = 3 → (w_l g V Z pa 1 l ∨ ∃ f r, l = f :: r ∧ w_l g V Z pa 0 l ∧ (gO g (fr_nd f) = 12 ∨ gO g (fr_nd f) = 14 ∨ gO g (fr_nd f) = 19)) ∧ w_tg g tgt l ∧ w_tp tgt ty p)
def u_f (g : mG) (Z : Nat → Nat) (f : Fr) : Nat := 4 + 16 * fo_sum Z (fr_rm f) + (if fr_ph f = 1 ∧ (gO g (fr_nd f) = 17 ∨ gO g (fr_nd f) = 18) then 16 * Z ((gK g (fr_nd f)).getD 0 0) else 0) + (if fr_ph f = 0 ∧ gO g (fr_nd f) = 15 then 3 else 0)
def u_l (g : mG) (Z : Nat → Nat) : List Fr → Nat
  | [] => 0
  | f :: r => u_f g Z f + u_l g Z r
def u_m (g : mG) (Z : Nat → Nat) (m : MS) : Nat := match m with
  | (0, _, _, _, _, l, s) => 3 + 1000 * (gF g - sBe s) + u_l g Z l
  | (1, _, _, _, _, l, s) => 3 + 1000 * (gF g - sBe s) + u_l g Z l
  | (2, _, _, _, _, l, s) => 2 + 1000 * (gF g - sBe s) + u_l g Z l
  | (3, _, _, _, _, l, s) => 1 + 1000 * (gF g - sBe s) + u_l g Z l
  | _ => 0
def u_p (m : MS) : Nat := sPr m.2.2.2.2.2.2
theorem w_link {g : mG} {V : Nat → Prop} {Z : Nat → Nat} {pa : Nat → Option Nat} : ∀ {l : List Fr} {w : Nat}, w_l g V Z pa w l → ∀ {h n e : Nat} {t : List (Nat × Nat × Nat)}, ((h, n, e) :: t) <:+ m_ch g l → ∃ q r', (q :: r') <:+ l ∧ r'.length = h ∧ fr_nd q = n ∧ fr_ev q = e ∧ fr_ph q = 1 ∧ (gO g n = 16 ∨ gO g n = 17) ∧ m_ch g r' = t
  | [], _, _, h, n, e, t, hs => by
    have hs : ((h, n, e) :: t) <:+ [] := hs
    exact absurd (List.suffix_nil.mp hs) (by simp)
  | f :: r, w, W, h, n, e, t, hs => by
    have hz : ((h, n, e) :: t) <:+ (if fr_ph f = 7 then fr_sc f else if fr_ph f = 1 ∧ (gO g (fr_nd f) = 16 ∨ gO g (fr_nd f) = 17) then (r.length, fr_nd f, fr_ev f) :: m_ch g r else m_ch g r) := hs
    have go : ((h, n, e) :: t) <:+ m_ch g r → ∃ q r', (q :: r') <:+ (f :: r) ∧ r'.length = h ∧ fr_nd q = n ∧ fr_ev q = e ∧ fr_ph q = 1 ∧ (gO g n = 16 ∨ gO g n = 17) ∧ m_ch g r' = t := by
      intro hs
      obtain ⟨q, r', a1, a2⟩ := w_link W.2 hs
      exact ⟨q, r', a1.trans (List.suffix_cons f r), a2⟩
    by_cases e7 : fr_ph f = 7
    · rw [if_pos e7] at hz
      obtain ⟨_, _, _, _, _, hd, _⟩ := W.1
      obtain ⟨q0, r0, e0, p0, s0⟩ := hd e7
      subst e0
      obtain ⟨⟨_, _, _, _, sg, _⟩, _⟩ := W.2
      obtain ⟨g1, _⟩ := sg p0
      refine go ?_
      have hs2 : ((h, n, e) :: t) <:+ fr_sc q0 := by rw [s0]; exact hz
      show ((h, n, e) :: t) <:+ (if fr_ph q0 = 7 then fr_sc q0 else if fr_ph q0 = 1 ∧ (gO g (fr_nd q0) = 16 ∨ gO g (fr_nd q0) = 17) then (r0.length, fr_nd q0, fr_ev q0) :: m_ch g r0 else m_ch g r0)
      rw [if_neg (by omega), if_neg (by omega)]
      exact hs2.trans g1
    · rw [if_neg e7] at hz
      by_cases e1 : fr_ph f = 1 ∧ (gO g (fr_nd f) = 16 ∨ gO g (fr_nd f) = 17)
      · rw [if_pos e1] at hz
        rcases List.suffix_cons_iff.mp hz with k | k
        · injection k with k1 k2
          injection k1 with k3 k4
          injection k4 with k5 k6
          subst k3 k5 k6 k2
          exact ⟨f, r, List.suffix_refl _, rfl, rfl, rfl, e1.1, e1.2, rfl⟩
        · exact go k
      · rw [if_neg e1] at hz
        exact go hz
theorem w_suf {g : mG} {V : Nat → Prop} {Z : Nat → Nat} {pa : Nat → Option Nat} : ∀ {l : List Fr}, w_l g V Z pa 1 l → ∀ {q : Fr} {r : List Fr}, (q :: r) <:+ l → w_f g V Z pa 1 q r ∧ w_l g V Z pa 1 r
  | [], _, q, r, hs => absurd (List.suffix_nil.mp hs) (by simp)
  | f :: r0, W, q, r, hs => by
    rcases List.suffix_cons_iff.mp hs with k | k
    · injection k with k1 k2
      subst k1 k2
      exact W
    · exact w_suf W.2 k
theorem w_kY_suf {g : mG} {Z : Nat → Nat} : ∀ {a b : List (Nat × Nat × Nat)}, a <:+ b → w_kY g Z a ≤ w_kY g Z b ∧ w_kX g Z a ≤ w_kX g Z b
  | a, [], h => by
    rw [List.suffix_nil.mp h]
    exact ⟨Nat.le_refl _, Nat.le_refl _⟩
  | a, (i, n, e) :: b, h => by
    rcases List.suffix_cons_iff.mp h with k | k
    · rw [k]
      exact ⟨Nat.le_refl _, Nat.le_refl _⟩
    · obtain ⟨h1, h2⟩ := w_kY_suf k
      exact ⟨Nat.le_trans h1 (Nat.le_add_left _ _), Nat.le_trans h2 (Nat.le_add_left _ _)⟩
theorem w_lx_mono {pa : Nat → Option Nat} {n e : Nat} {l l' : List Fr} (hs : l <:+ l') (h : w_lx pa n e l) : w_lx pa n e l' := by
  rcases h with h | ⟨q, h1, h2⟩
  · exact Or.inl h
  · exact Or.inr ⟨q, hs.subset h1, h2⟩
theorem w_tg_mono {g : mG} {t : Option Nat} {l l' : List Fr} (hs : l <:+ l') (h : w_tg g t l) : w_tg g t l' := by
  intro k hk
  obtain ⟨q, r', a1, a2⟩ := h k hk
  exact ⟨q, r', a1.trans hs, a2⟩
