/-! every step keeps it, and comes nearer to the end -/
theorem fo_sum_mem {Z : Nat → Nat} {c : Nat} : ∀ {l : List Nat}, c ∈ l → Z c ≤ fo_sum Z l
  | [], h => by cases h
  | a :: r, h => by
    show Z c ≤ Z a + fo_sum Z r
    rcases List.mem_cons.mp h with e | e
    · rw [e]; omega
    · have := fo_sum_mem (Z := Z) e
      omega
theorem fo_sum_drop {Z : Nat → Nat} : ∀ (k : Nat) (l : List Nat), fo_sum Z (l.drop k) ≤ fo_sum Z l
  | 0, l => Nat.le_refl _
  | k + 1, [] => Nat.le_refl _
  | k + 1, a :: r => Nat.le_trans (fo_sum_drop k r) (Nat.le_add_left _ _)
theorem fo_con_len {Z : Nat → Nat} {e : Nat} : ∀ {p : Nat} {l : List Nat}, fo_con Z e p l → l.length ≤ fo_sum Z l
  | _, [], _ => Nat.le_refl _
  | p, c :: cs, h => by
    obtain ⟨rfl, h1, h2⟩ := h
    have := fo_con_len h2
    show cs.length + 1 ≤ Z c + fo_sum Z cs
    omega
theorem fo_get0 {Z : Nat → Nat} {l : List Nat} (h : 1 ≤ l.length) : l.getD 0 0 ∈ l ∧ Z (l.getD 0 0) + fo_sum Z (l.drop 1) = fo_sum Z l := by
  cases l with
  | nil => exact absurd h (by decide)
  | cons c cs => exact ⟨List.mem_cons_self .., rfl⟩
theorem fo_getj {l : List Nat} {j : Nat} (h : j < l.length) : l.getD j 0 ∈ l := by
  rw [List.getD_eq_getElem?_getD, List.getElem?_eq_getElem h]
  exact List.getElem_mem h
theorem u_fT {g : mG} {Z : Nat → Nat} {nd ev ph gt bv ty sr : Nat} {rm : List Nat} {x0 x1 x2 la bx dt pl : Int32} {sc : List (Nat × Nat × Nat)} {tg : Option Nat} : u_f g Z ((nd, ev, ph, rm), (gt, x0, x1, x2), (la, bv, bx, ty), dt, sc, sr, tg, pl) = 4 + 16 * fo_sum Z rm + (if ph = 1 ∧ (gO g nd = 17 ∨ gO g nd = 18) then 16 * Z ((gK g nd).getD 0 0) else 0) + (if ph = 0 ∧ gO g nd = 15 then 3 else 0) := rfl
theorem fo_sum_1 {Z : Nat → Nat} {c : Nat} : fo_sum Z [c] = Z c := rfl
section
variable {g : mG} {V : Nat → Prop} {Z : Nat → Nat} {pa : Nat → Option Nat} {T : Nat}
theorem w_ks (G : g_w g V Z pa T) {n : Nat} (h : V n) : fo_sum Z (gK g n) + 1 = Z n ∧ (gK g n).length < 56 ∧ (gK g n).length ≤ fo_sum Z (gK g n) := by
  obtain ⟨_, h1, h2, _, _, h6, _⟩ := G.1 n h
  have a := fo_con_sum h6
  have b := fo_con_len h6
  omega
theorem w_nf {t : Nat} {Q : Prop} (h : ¬ 4 ≤ t) : 4 ≤ t → Q := fun z => absurd z h
def w_s (g : mG) (s : St) : Prop := sBe s ≤ gF g ∧ rl_Ce (sCe s)
def w_ok (g : mG) (V : Nat → Prop) (Z : Nat → Nat) (pa : Nat → Option Nat) (b p : Nat) (m : MS) : Prop := w_m g V Z pa m ∧ u_m g Z m ≤ b ∧ u_p m ≤ p
theorem w_ok_le {b b' p p' : Nat} {m : MS} (h : w_ok g V Z pa b p m) (hb : b ≤ b') (hp : p ≤ p') : w_ok g V Z pa b' p' m := ⟨h.1, Nat.le_trans h.2.1 hb, Nat.le_trans h.2.2 hp⟩
theorem w_dlv {l : List Fr} {v : Int32} {s : St} (W : w_l g V Z pa 1 l) (hf : m_fc l ≤ gD g) (hs : w_s g s) : w_ok g V Z pa (3 + 1000 * (gF g - sBe s) + u_l g Z l) (sPr s) (m_dlv l v s) := by
  cases l with
  | nil => exact ⟨⟨hf, hs.1, hs.2, fun _ => Or.inl ⟨rfl, rfl⟩, fun e => (by cases e), fun e => (by cases e), fun e => (by cases e), fun e => (by cases e)⟩, Nat.zero_le _, Nat.le_refl _⟩
  | cons f r => exact ⟨⟨hf, hs.1, hs.2, w_nf (by decide), fun e => (by cases e), fun _ => ⟨fun e => (by cases e), W⟩, fun e => (by cases e), fun e => (by cases e)⟩, Nat.le_refl _, Nat.le_refl _⟩
theorem w_done {l : List Fr} {v : Int32} {t : Option Nat} {y k b p : Nat} {q : Int32} {s : St} (hk : 4 ≤ k) (hE : (k = 4 ∧ l = []) ∨ (k = 5 ∧ l = []) ∨ (k = 6 ∧ ∃ w, w_l g V Z pa w l)) (hf : m_fc l ≤ gD g) (hs : w_s g s) (hp : sPr s ≤ p) : w_ok g V Z pa b p (k, v, t, y, q, l, s) := by
  have : u_m g Z (k, v, t, y, q, l, s) = 0 := by
    obtain ⟨j, rfl⟩ : ∃ j, k = j + 4 := ⟨k - 4, by omega⟩
    rfl
  exact ⟨⟨hf, hs.1, hs.2, fun _ => hE, fun e => by omega, fun e => by omega, fun e => by omega, fun e => by omega⟩, by rw [this]; exact Nat.zero_le _, hp⟩
theorem w_new (G : g_w g V Z pa T) {n e : Nat} {l : List Fr} (hV : V n) (hO : gO g n ≤ 26) (he : e ≤ 5) (hx : w_lx pa n e l) (hi : w_iq g Z n l) (ht : ∀ q r', l = q :: r' → fr_ph q ≠ 4 ∧ fr_ph q ≠ 8) : w_f g V Z pa 0 (m_new g n e) l ∧ u_f g Z (m_new g n e) ≤ 7 + 16 * (Z n - 1) ∧ (fr_ph (m_new g n e) = 0 ∨ fr_ph (m_new g n e) = 1) := by
  obtain ⟨k1, k2, k3⟩ := w_ks G hV
  obtain ⟨_, _, _, _, n5, n6, n7, _⟩ := G.1 n hV
  have hl := n7 hO
  have end1 : fr_nd (m_new g n e) = n := rfl
  by_cases c1 : 16 ≤ gO g n ∧ gO g n ≤ 18
  · have hle : 1 ≤ (gK g n).length := by
      have : fo_least (gO g n) = 1 := by
        unfold fo_least
        rw [if_neg (by omega), if_neg (by omega), if_neg (by omega)]
      omega
    have eph : fr_ph (m_new g n e) = 1 := if_pos (Or.inr (Or.inr c1))
    have erm : fr_rm (m_new g n e) = (gK g n).drop 1 := if_pos c1
    refine ⟨⟨hV, he, ?_, Or.inl rfl, fun z => ?_, fun z => ?_, fun _ => ht, hx, fun _ => hi, fun z => ?_⟩, ?_, Or.inr eph⟩
    · refine Or.inr (Or.inr (Or.inl ⟨eph, c1.1, c1.2, erm, ?_⟩))
      exact hle
    · rw [eph] at z; omega
    · rw [eph] at z; omega
    · rw [eph] at z; omega
    · unfold u_f
      rw [erm, eph]
      have := (fo_get0 (Z := Z) hle).2
      rw [end1]
      split <;> split <;> omega
  · have erm : fr_rm (m_new g n e) = gK g n := if_neg c1
    by_cases c2 : gO g n = 7 ∨ gO g n = 11
    · have eph : fr_ph (m_new g n e) = 1 := if_pos (by omega)
      refine ⟨⟨hV, he, ?_, Or.inl rfl, fun z => ?_, fun z => ?_, fun _ => ht, hx, fun _ => hi, fun z => ?_⟩, ?_, Or.inr eph⟩
      · refine Or.inr (Or.inr (Or.inr (Or.inl ⟨eph, ?_, erm, Nat.zero_le _, ?_⟩)))
        · show gO g n = 7 ∨ gO g n = 9 ∨ gO g n = 10 ∨ gO g n = 11 ∨ gO g n = 13
          omega
        · intro z
          have z : gO g n = 9 ∨ gO g n = 10 ∨ gO g n = 13 := z
          omega
      · rw [eph] at z; omega
      · rw [eph] at z; omega
      · rw [eph] at z; omega
      · unfold u_f
        rw [erm, eph]
        rw [end1]
        split <;> split <;> omega
    · have eph : fr_ph (m_new g n e) = 0 := if_neg (by omega)
      refine ⟨⟨hV, he, ?_, Or.inl rfl, fun z => ?_, fun z => ?_, fun _ => ht, hx, fun _ => hi, fun z => ?_⟩, ?_, Or.inl eph⟩
      · refine Or.inl ⟨eph, hO, fun z => c2 (Or.inl z), fun z => c2 (Or.inr z), c1, erm, Nat.zero_le _, fun _ => rfl⟩
      · rw [eph] at z; omega
      · rw [eph] at z; omega
      · rw [eph] at z; omega
      · unfold u_f
        rw [erm, eph]
        rw [end1]
        split <;> split <;> omega
theorem w_fc_ne {f : Fr} {r : List Fr} (h : fr_ph f ≠ 6) : m_fc (f :: r) = m_fc r := by
  show m_fc r + (if fr_ph f = 6 then 1 else 0) = m_fc r
  rw [if_neg h, Nat.add_zero]
theorem w_ev (G : g_w g V Z pa T) {n e : Nat} {l : List Fr} {s : St} (hV : V n) (he : e ≤ 5) (W : w_l g V Z pa 1 l) (hx : w_lx pa n e l) (hi : w_iq g Z n l) (hf : m_fc l ≤ gD g) (ht : ∀ q r', l = q :: r' → fr_ph q ≠ 4 ∧ fr_ph q ≠ 8) (hs : w_s g s) : w_ok g V Z pa (1000 * (gF g - sBe s) + u_l g Z l + 16 * Z n) (sPr s) (m_ev g n e l s) := by
  obtain ⟨n1, n2, n3, n4, n5, n6, n7, n8, _⟩ := G.1 n hV
  unfold m_ev
  split
  · exact w_ok_le (w_dlv W hf hs) (by omega) (Nat.le_refl _)
  · split
    · split
      · exact w_ok_le (w_dlv W hf hs) (by omega) (Nat.le_refl _)
      · split
        · exact w_ok_le (w_dlv W hf hs) (by omega) (Nat.le_refl _)
        · rename_i c1 c2 c3 _ c4
          refine ⟨⟨?_, hs.1, hs.2, w_nf (by decide), fun z => (by cases z), fun z => (by cases z), fun _ => ⟨_, l, rfl, Or.inr rfl, ⟨hV, he, ?_, Or.inl rfl, fun _ => ⟨List.suffix_refl _, Nat.le_refl _, ?_, (by show 1 ≤ 4; decide), (by show 4 ≤ 15; decide), fun q r' e => ht q r' (by have e : l.drop (l.length - l.length) = q :: r' := e; rw [Nat.sub_self] at e; exact e)⟩, fun z => (by cases z), fun _ => ht, hx, fun _ => hi, fun z => (by cases z)⟩, W⟩, fun z => (by cases z)⟩, ?_, Nat.le_refl _⟩
          · rw [w_fc_ne (by show 8 ≠ 6; decide)]; exact hf
          · exact Or.inr (Or.inr (Or.inr (Or.inr (Or.inr (Or.inr (Or.inr (Or.inr (Or.inr ⟨rfl, c2, rfl⟩))))))))
          · show m_ch g (l.drop (l.length - l.length)) = m_ch g l
            rw [Nat.sub_self]; rfl
          · show 2 + 1000 * (gF g - sBe s) + (u_f g Z ((n, e, 8, []), (0, 0, 0, 0), (0, 0, 0, 4), nI (gA g n), m_ch g l, l.length, none, 0) + u_l g Z l) ≤ _
            rw [u_fT, if_neg (by omega), if_neg (by omega)]
            show 2 + 1000 * (gF g - sBe s) + (4 + 16 * 0 + 0 + 0 + u_l g Z l) ≤ _
            omega
    · rename_i c1 c2
      obtain ⟨a1, a2, a3⟩ := w_new G hV (by omega) he hx hi ht
      have hfc : m_fc (m_new g n e :: l) ≤ gD g := by rw [w_fc_ne (by omega)]; exact hf
      split
      · rename_i c3
        split
        · rename_i c4
          refine ⟨⟨hfc, c4, hs.2, w_nf (by decide), fun _ => ⟨_, l, rfl, by omega, ⟨a1, W⟩, fun _ => ⟨?_, rfl, Nat.succ_le_succ (Nat.zero_le _)⟩, Or.inr rfl⟩, fun z => (by cases z), fun z => (by cases z), fun z => (by cases z)⟩, ?_, Nat.le_refl _⟩
          · exact if_neg (by omega)
          · show 3 + 1000 * (gF g - (sBe s + 1)) + (u_f g Z (m_new g n e) + u_l g Z l) ≤ _
            omega
        · exact w_done (by decide) (Or.inr (Or.inr ⟨rfl, 0, a1, W⟩)) hfc hs (Nat.le_refl _)
      · rename_i c3
        refine ⟨⟨hfc, hs.1, hs.2, w_nf (by decide), fun _ => ⟨_, l, rfl, by omega, ⟨a1, W⟩, fun z => absurd z c3, Or.inr rfl⟩, fun z => (by cases z), fun z => (by cases z), fun z => (by cases z)⟩, ?_, Nat.le_refl _⟩
        show 3 + 1000 * (gF g - sBe s) + (u_f g Z (m_new g n e) + u_l g Z l) ≤ _
        omega
theorem w_raise (G : g_w g V Z pa T) {f : Fr} {r : List Fr} {t : Nat} {d : Int32} {s : St} (F : w_f g V Z pa 0 f r) (W : w_l g V Z pa 1 r) (hp : fr_ph f = 0) (hr : fr_rm f = []) (ho : gO g (fr_nd f) = 3 ∨ gO g (fr_nd f) = 14 ∨ (19 ≤ gO g (fr_nd f) ∧ gO g (fr_nd f) ≤ 21) ∨ (23 ≤ gO g (fr_nd f) ∧ gO g (fr_nd f) ≤ 25)) (t1 : 1 ≤ t) (t2 : t ≤ 15) (hf : m_fc r ≤ gD g) (hs : w_s g s) : w_ok g V Z pa (2 + 1000 * (gF g - sBe s) + 4 + u_l g Z r) (sPr s) (m_raise g f r t d s) := by
  obtain ⟨⟨nd, ev, ph, rm⟩, ⟨gt, x0, x1, x2⟩, ⟨la, bv, bx, ty⟩, dt, sc, sr, tg, pl⟩ := f
  obtain ⟨f1, f2, f3, f4, f5, f6, f7, f8, f9, f10⟩ := F
  have hr : rm = [] := hr
  have hp : ph = 0 := hp
  subst hr hp
  have hb : bv = 0 := by
    rcases f4 with z | ⟨_, _, z⟩
    · exact z
    · rcases z with ⟨z, _⟩ | z | z <;> cases z
  refine ⟨⟨by rw [w_fc_ne (by show 4 ≠ 6; decide)]; exact hf, hs.1, hs.2, w_nf (by decide), fun z => (by cases z), fun z => (by cases z), fun _ => ⟨_, r, rfl, Or.inl rfl, ⟨f1, f2, ?_, Or.inl hb, fun _ => ⟨List.suffix_refl _, Nat.le_refl _, ?_, t1, t2, fun q r' e => f7 (fun z => (by cases z)) q r' (by have e : r.drop (r.length - r.length) = q :: r' := e; rw [Nat.sub_self] at e; exact e)⟩, fun z => (by cases z), fun _ => f7 (fun z => (by cases z)), f8, fun _ => f9 (fun z => (by cases z)), fun z => (by cases z)⟩, W⟩, fun z => (by cases z)⟩, ?_, Nat.le_refl _⟩
  · exact Or.inr (Or.inr (Or.inr (Or.inr (Or.inr (Or.inl ⟨rfl, ho, rfl⟩)))))
  · show m_ch g (r.drop (r.length - r.length)) = m_ch g r
    rw [Nat.sub_self]; rfl
  · show 2 + 1000 * (gF g - sBe s) + (u_f g Z ((nd, ev, 4, []), (gt, x0, x1, x2), (la, bv, bx, t), d, m_ch g r, r.length, tg, pl) + u_l g Z r) ≤ _
    rw [u_fT, if_neg (by omega), if_neg (by omega)]
    show 2 + 1000 * (gF g - sBe s) + (4 + 16 * 0 + 0 + 0 + u_l g Z r) ≤ _
    omega
end
