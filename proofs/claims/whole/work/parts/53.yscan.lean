/-! the reference's side: searches in the stack, counting calls -/
section
variable {g : mG} {V : Nat → Prop} {Z : Nat → Nat} {pa : Nat → Option Nat} {T : Nat} {c_node c_got c_handle c_pTarget c_pPlace c_act c_mode c_bVar c_pType c_v0 c_v1 c_v2 c_last c_bVal c_pVal : Nat → Int32} {l r : List Fr} {f : Fr}
theorem w_yh_pos {l : List Fr} {w : Nat} (W : w_l g V Z pa w l) (h : l ≠ []) : 1 ≤ m_yh l := by
  cases l with
  | nil => exact absurd rfl h
  | cons f r =>
    have hm := m_yh_p (f := f) (r := r)
    by_cases p7 : fr_ph f = 7
    · rw [if_pos p7] at hm
      obtain ⟨q0, r0, e0, p0, s0⟩ := W.1.2.2.2.2.2.1 p7
      have hq0 := m_yh_p (f := q0) (r := r0)
      rw [if_neg (w_48 p0).1] at hq0
      rw [hm, e0, hq0]
      split <;> omega
    · rw [if_neg p7] at hm
      rw [hm]
      split <;> omega
theorem m_find_suf {pr : Fr → Bool} {f : Fr} {r : List Fr} : m_find pr (f :: r) = if pr f = true then some r.length else m_find pr r := rfl
theorem y_at_len {l r : List Fr} {q : Fr} (h : (q :: r) <:+ l) : y_at l r.length = m_yh r := by
  unfold y_at
  rw [(m_suf_drop h).1]
theorem y_scan {Lp : Nat → Int32 → Prop} {pr : Fr → Bool} {L0 : List Fr} (hpr : ∀ f r w, w_f g V Z pa w f r → fr_ph f = 4 ∨ fr_ph f = 7 ∨ fr_ph f = 8 → pr f = false)
    (hs : ∀ n k, k < 520 → c_node k = -1 → (m_find pr L0 ≠ none → 1 ≤ k) → Lp n (nI k - 1) → Lp (n + 1) (nI k))
    (hn : ∀ n f r w, w_f g V Z pa w f r → (fr_ph f = 4 ∧ c_mode (m_yh r) = 0) ∨ (fr_ph f ≠ 4 ∧ fr_ph f ≠ 7 ∧ fr_ph f ≠ 8 ∧ yA g c_node c_got c_handle c_pTarget c_pPlace c_act c_mode c_bVar c_pType c_v0 c_v1 c_v2 c_last c_bVal c_pVal True (m_yh r) f r) → c_node (m_yh r) = nI (fr_nd f) → m_yh r < 520 → pr f = false → (m_find pr L0 ≠ none → 1 ≤ m_yh r) → Lp n (nI (m_yh r) - 1) → Lp (n + 1) (nI (m_yh r)))
    (hp : ∀ n f r w, w_f g V Z pa w f r → fr_ph f ≠ 4 → fr_ph f ≠ 7 → fr_ph f ≠ 8 → yA g c_node c_got c_handle c_pTarget c_pPlace c_act c_mode c_bVar c_pType c_v0 c_v1 c_v2 c_last c_bVal c_pVal True (m_yh r) f r → m_yh r < 520 → pr f = true → m_find pr L0 = some r.length → (f :: r) <:+ L0 → Lp (n + 1) (nI (m_yh r)))
    (he : m_find pr L0 = none → ∀ n, Lp (n + 1) (-1)) : ∀ (l : List Fr) (w : Nat), w_l g V Z pa w l → yL g c_node c_got c_handle c_pTarget c_pPlace c_act c_mode c_bVar c_pType c_v0 c_v1 c_v2 c_last c_bVal c_pVal l → m_yh l ≤ 520 → l <:+ L0 → m_find pr L0 = m_find pr l → ∀ n, m_yh l < n → Lp n (nI (m_yh l) - 1)
  | _, _, _, _, _, _, _, 0, hn => by omega
  | [], _, _, _, _, _, e, n + 1, _ => he e n
  | f :: r, w, W, Y, h5, hsuf, e, n + 1, hlt => by
    have hm := m_yh_p (f := f) (r := r)
    have hpos : m_find pr L0 ≠ none → m_find pr L0 = m_find pr r → 1 ≤ m_yh r := by
      intro z1 z2
      refine w_yh_pos W.2 (fun z => ?_)
      rw [z] at z2
      exact z1 z2
    have hr : r <:+ L0 := (List.suffix_cons f r).trans hsuf
    have Y1 := Y.1
    unfold yF at Y1
    rw [m_find_suf] at e
    by_cases p7 : fr_ph f = 7
    · rw [if_pos p7] at hm
      rw [if_neg (by rw [hpr f r w W.1 (Or.inr (Or.inl p7))]; decide)] at e
      rw [hm, Nat.add_zero] at hlt h5 ⊢
      exact y_scan hpr hs hn hp he r 1 W.2 Y.2 h5 hr e (n + 1) hlt
    · rw [if_neg p7] at hm Y1
      by_cases p4 : fr_ph f = 4
      · rw [if_pos p4] at hm Y1
        have hf := hpr f r w W.1 (Or.inl p4)
        rw [if_neg (by rw [hf]; decide)] at e
        rw [hm] at hlt h5 ⊢
        obtain ⟨m, rfl⟩ : ∃ m, n = m + 1 := ⟨n - 1, by omega⟩
        rw [show m_yh r + 2 = m_yh r + 1 + 1 from rfl, nI_pred]
        refine hs _ _ (by omega) Y1.2.2.2.1 (fun _ => by omega) ?_
        rw [nI_pred]
        exact hn _ f r w W.1 (Or.inl ⟨p4, Y1.2.1⟩) Y1.1 (by omega) hf (fun z => hpos z e) (y_scan hpr hs hn hp he r 1 W.2 Y.2 (by omega) hr e m (by omega))
      · rw [if_neg p4] at hm Y1
        rw [hm] at hlt h5 ⊢
        rw [nI_pred]
        by_cases p8 : fr_ph f = 8
        · rw [if_pos p8] at Y1
          have hf := hpr f r w W.1 (Or.inr (Or.inr p8))
          rw [if_neg (by rw [hf]; decide)] at e
          exact hs _ _ (by omega) Y1.1 (fun z => hpos z e) (y_scan hpr hs hn hp he r 1 W.2 Y.2 (by omega) hr e n (by omega))
        · rw [if_neg p8] at Y1
          have hnode : c_node (m_yh r) = nI (fr_nd f) := by
            obtain ⟨⟨nd, ev, ph, rm⟩, ⟨gt, x0, x1, x2⟩, ⟨la, bv, bx, ty⟩, dt, sc, sr, tg, pl⟩ := f
            exact Y1.1
          by_cases hf : pr f = true
          · rw [if_pos hf] at e
            exact hp _ f r w W.1 p4 p7 p8 Y1 (by omega) hf e hsuf
          · rw [if_neg hf] at e
            have hf' : pr f = false := by
              cases h : pr f with
              | true => exact absurd h hf
              | false => rfl
            exact hn _ f r w W.1 (Or.inr ⟨p4, p7, p8, Y1⟩) hnode (by omega) hf' (fun z => hpos z e) (y_scan hpr hs hn hp he r 1 W.2 Y.2 (by omega) hr e n (by omega))
/-- counting upwards: Lp c k -/
theorem y_cnt {Lp : Nat → Nat → Nat → Prop} {M : Nat} (hs : ∀ n c k, k < M → c_node k = -1 → Lp n c (k + 1) → Lp (n + 1) c k)
    (hn : ∀ n c f r w, w_f g V Z pa w f r → (fr_ph f = 4 ∧ c_mode (m_yh r) = 0) ∨ (fr_ph f ≠ 4 ∧ fr_ph f ≠ 7 ∧ fr_ph f ≠ 8 ∧ yA g c_node c_got c_handle c_pTarget c_pPlace c_act c_mode c_bVar c_pType c_v0 c_v1 c_v2 c_last c_bVal c_pVal True (m_yh r) f r) → c_node (m_yh r) = nI (fr_nd f) → m_yh r < M → Lp n (c + (if fr_ph f = 6 then 1 else 0)) (m_yh r + 1) → Lp (n + 1) c (m_yh r)) : ∀ (l : List Fr) (w : Nat), w_l g V Z pa w l → yL g c_node c_got c_handle c_pTarget c_pPlace c_act c_mode c_bVar c_pType c_v0 c_v1 c_v2 c_last c_bVal c_pVal l → m_yh l ≤ M → ∀ n, Lp n (m_fc l) (m_yh l) → Lp (n + m_yh l) 0 0
  | [], _, _, _, _, n, h => h
  | f :: r, w, W, Y, h5, n, h => by
    have hm := m_yh_p (f := f) (r := r)
    have hc : m_fc (f :: r) = m_fc r + (if fr_ph f = 6 then 1 else 0) := rfl
    have Y1 := Y.1
    unfold yF at Y1
    rw [hc] at h
    by_cases p7 : fr_ph f = 7
    · rw [if_pos p7, Nat.add_zero] at hm
      rw [if_neg (by omega), Nat.add_zero] at h
      rw [hm] at h5 h ⊢
      exact y_cnt hs hn r 1 W.2 Y.2 h5 n h
    · rw [if_neg p7] at hm Y1
      by_cases p4 : fr_ph f = 4
      · rw [if_pos p4] at hm Y1
        rw [hm] at h5 h ⊢
        have e : n + (m_yh r + 2) = (n + 2) + m_yh r := by omega
        rw [e]
        refine y_cnt hs hn r 1 W.2 Y.2 (by omega) (n + 2) ?_
        refine hn (n + 1) _ f r w W.1 (Or.inl ⟨p4, Y1.2.1⟩) Y1.1 (by omega) ?_
        exact hs n _ (m_yh r + 1) (by omega) Y1.2.2.2.1 h
      · rw [if_neg p4] at hm Y1
        rw [hm] at h5 h ⊢
        have e : n + (m_yh r + 1) = (n + 1) + m_yh r := by omega
        rw [e]
        refine y_cnt hs hn r 1 W.2 Y.2 (by omega) (n + 1) ?_
        by_cases p8 : fr_ph f = 8
        · rw [if_pos p8] at Y1
          rw [if_neg (by omega), Nat.add_zero] at h
          exact hs n _ (m_yh r) (by omega) Y1.1 h
        · rw [if_neg p8] at Y1
          have hnode : c_node (m_yh r) = nI (fr_nd f) := by
            obtain ⟨⟨nd, ev, ph, rm⟩, ⟨gt, x0, x1, x2⟩, ⟨la, bv, bx, ty⟩, dt, sc, sr, tg, pl⟩ := f
            exact Y1.1
          exact hn n _ f r w W.1 (Or.inr ⟨p4, p7, p8, Y1⟩) hnode (by omega) h
end
