/-! stacks that differ in bound values alone; searches in the stack -/
def m_er (f : Fr) : Fr := match f with
  | ((nd, ev, ph, rm), (gt, x0, x1, x2), (la, bv, bx, ty), dt, sc, sr, tg, pl) => ((nd, ev, ph, rm), (gt, x0, x1, x2), (la, bv, 0, ty), dt, sc, sr, tg, pl)
def m_sh : List Fr → List Fr → Prop
  | [], [] => True
  | f :: r, f' :: r' => m_er f = m_er f' ∧ m_sh r r'
  | _, _ => False
theorem m_er_eq {f f' : Fr} (h : m_er f = m_er f') : ∃ x, f' = ((f.1.1, f.1.2.1, f.1.2.2.1, f.1.2.2.2), (f.2.1.1, f.2.1.2.1, f.2.1.2.2.1, f.2.1.2.2.2), (f.2.2.1.1, f.2.2.1.2.1, x, f.2.2.1.2.2.2), f.2.2.2.1, f.2.2.2.2.1, f.2.2.2.2.2.1, f.2.2.2.2.2.2.1, f.2.2.2.2.2.2.2) := by
  obtain ⟨⟨nd, ev, ph, rm⟩, ⟨gt, x0, x1, x2⟩, ⟨la, bv, bx, ty⟩, dt, sc, sr, tg, pl⟩ := f
  obtain ⟨⟨nd', ev', ph', rm'⟩, ⟨gt', x0', x1', x2'⟩, ⟨la', bv', bx', ty'⟩, dt', sc', sr', tg', pl'⟩ := f'
  refine ⟨bx', ?_⟩
  injection h with ha h
  injection h with hb h
  injection h with hc h
  injection ha with h1 ha
  injection ha with h2 ha
  injection ha with h3 h4
  injection hb with h5 hb
  injection hb with h6 hb
  injection hb with h7 h8
  injection hc with h9 hc
  injection hc with h10 hc
  injection hc with h11 h12
  injection h with h13 h
  injection h with h14 h
  injection h with h15 h
  injection h with h16 h17
  subst h1 h2 h3 h4 h5 h6 h7 h8 h9 h10 h12 h13 h14 h15 h16 h17
  rfl
theorem m_sh_refl : ∀ l, m_sh l l
  | [] => trivial
  | f :: r => ⟨rfl, m_sh_refl r⟩
theorem m_sh_len : ∀ {l l' : List Fr}, m_sh l l' → l.length = l'.length
  | [], [], _ => rfl
  | f :: r, f' :: r', h => congrArg (· + 1) (m_sh_len h.2)
  | [], f' :: r', h => h.elim
  | f :: r, [], h => h.elim
theorem m_sh_drop : ∀ (k : Nat) {l l' : List Fr}, m_sh l l' → m_sh (l.drop k) (l'.drop k)
  | 0, _, _, h => h
  | k + 1, [], [], _ => trivial
  | k + 1, f :: r, f' :: r', h => m_sh_drop k h.2
  | k + 1, [], f' :: r', h => h.elim
  | k + 1, f :: r, [], h => h.elim
theorem m_sh_fun {g : mG} {Z : Nat → Nat} : ∀ {l l' : List Fr}, m_sh l l' → m_ch g l = m_ch g l' ∧ m_fc l = m_fc l' ∧ m_yh l = m_yh l' ∧ u_l g Z l = u_l g Z l'
  | [], [], _ => ⟨rfl, rfl, rfl, rfl⟩
  | f :: r, f' :: r', h => by
    obtain ⟨a1, a2, a3, a4⟩ := m_sh_fun (g := g) (Z := Z) h.2
    have e := m_sh_len h.2
    obtain ⟨x, rfl⟩ := m_er_eq h.1
    refine ⟨?_, ?_, ?_, ?_⟩
    · show (if fr_ph f = 7 then fr_sc f else if fr_ph f = 1 ∧ (gO g (fr_nd f) = 16 ∨ gO g (fr_nd f) = 17) then (r.length, fr_nd f, fr_ev f) :: m_ch g r else m_ch g r) = (if fr_ph f = 7 then fr_sc f else if fr_ph f = 1 ∧ (gO g (fr_nd f) = 16 ∨ gO g (fr_nd f) = 17) then (r'.length, fr_nd f, fr_ev f) :: m_ch g r' else m_ch g r')
      rw [a1, e]
    · show m_fc r + (if fr_ph f = 6 then 1 else 0) = m_fc r' + (if fr_ph f = 6 then 1 else 0)
      rw [a2]
    · show m_yh r + (if fr_ph f = 7 then 0 else if fr_ph f = 4 then 2 else 1) = m_yh r' + (if fr_ph f = 7 then 0 else if fr_ph f = 4 then 2 else 1)
      rw [a3]
    · show u_f g Z f + u_l g Z r = u_f g Z f + u_l g Z r'
      rw [a4]
  | [], f' :: r', h => h.elim
  | f :: r, [], h => h.elim
theorem m_sh_mem : ∀ {l l' : List Fr}, m_sh l l' → ∀ q, q ∈ l → ∃ q', q' ∈ l' ∧ fr_nd q' = fr_nd q ∧ fr_ev q' = fr_ev q
  | [], [], _, q, h => by cases h
  | f :: r, f' :: r', h, q, hq => by
    rcases List.mem_cons.mp hq with e | e
    · obtain ⟨x, hx⟩ := m_er_eq h.1
      refine ⟨f', List.mem_cons_self .., ?_⟩
      rw [e, hx]
      exact ⟨rfl, rfl⟩
    · obtain ⟨q', a, b⟩ := m_sh_mem h.2 q e
      exact ⟨q', List.mem_cons_of_mem _ a, b⟩
  | [], f' :: r', h, _, _ => h.elim
  | f :: r, [], h, _, _ => h.elim
theorem m_sh_suf : ∀ {l l' : List Fr}, m_sh l l' → ∀ {q r}, (q :: r) <:+ l → ∃ q' r', (q' :: r') <:+ l' ∧ m_er q = m_er q' ∧ r.length = r'.length
  | [], [], _, q, r, hs => absurd (List.suffix_nil.mp hs) (by simp)
  | f :: r0, f' :: r0', h, q, r, hs => by
    rcases List.suffix_cons_iff.mp hs with k | k
    · injection k with k1 k2
      subst k1 k2
      exact ⟨f', r0', List.suffix_refl _, h.1, m_sh_len h.2⟩
    · obtain ⟨q', r', a, b⟩ := m_sh_suf h.2 k
      exact ⟨q', r', a.trans (List.suffix_cons _ _), b⟩
  | [], f' :: r', h, _, _, _ => h.elim
  | f :: r, [], h, _, _, _ => h.elim
theorem m_sh_tg {g : mG} {t : Option Nat} {l l' : List Fr} (h : m_sh l l') (W : w_tg g t l) : w_tg g t l' := by
  intro k hk
  obtain ⟨q, r, a1, a2, a3, a4⟩ := W k hk
  obtain ⟨q', r', b1, b2, b3⟩ := m_sh_suf h a1
  obtain ⟨x, hx⟩ := m_er_eq b2
  exact ⟨q', r', b1, by omega, by rw [hx]; exact a3, by rw [hx]; exact a4⟩
theorem m_sh_w {g : mG} {V : Nat → Prop} {Z : Nat → Nat} {pa : Nat → Option Nat} : ∀ {l l' : List Fr}, m_sh l l' → ∀ {w}, w_l g V Z pa w l → w_l g V Z pa w l'
  | [], [], _, _, _ => trivial
  | f :: r, f' :: r', h, w, W => by
    obtain ⟨⟨f1, f2, f3, f4, f5, f6, f7, f8, f9, f10⟩, W2⟩ := W
    obtain ⟨a1, a2, a3, a4⟩ := m_sh_fun (g := g) (Z := Z) h.2
    have e := m_sh_len h.2
    obtain ⟨x, rfl⟩ := m_er_eq h.1
    refine ⟨⟨f1, f2, f3, f4, fun z => ?_, fun z => ?_, fun z q r1 er => ?_, ?_, fun z => ?_, fun z => ⟨m_sh_tg h.2 (f10 z).1, (f10 z).2⟩⟩, m_sh_w h.2 W2⟩
    · obtain ⟨b1, b2, b3, b4, b5, b6⟩ := f5 z
      have b3 : m_ch g (r.drop (r.length - fr_sr f)) = fr_sc f := b3
      refine ⟨by rw [← a1]; exact b1, by rw [← e]; exact b2, ?_, b4, b5, fun q r1 eq => ?_⟩
      show m_ch g (r'.drop (r'.length - fr_sr f)) = fr_sc f
      rw [← e, ← (m_sh_fun (g := g) (Z := Z) (m_sh_drop _ h.2)).1]
      exact b3
      have b6 : ∀ q r1, r.drop (r.length - fr_sr f) = q :: r1 → fr_ph q ≠ 4 ∧ fr_ph q ≠ 8 := b6
      have eq : r'.drop (r'.length - fr_sr f) = q :: r1 := eq
      have sd := m_sh_drop (r.length - fr_sr f) h.2
      rw [← e] at eq
      rw [eq] at sd
      cases hd : r.drop (r.length - fr_sr f) with
      | nil => rw [hd] at sd; exact sd.elim
      | cons q0 r2 =>
        rw [hd] at sd
        obtain ⟨y, hy⟩ := m_er_eq sd.1
        rw [hy]
        exact b6 q0 r2 hd
    · obtain ⟨q, r1, b1, b2, b3⟩ := f6 z
      subst b1
      cases r' with
      | nil => exact h.2.elim
      | cons q' r1' =>
        obtain ⟨y, hy⟩ := m_er_eq h.2.1
        refine ⟨q', r1', rfl, ?_, ?_⟩
        · rw [hy]; exact b2
        · rw [hy]; exact b3
    · subst er
      cases r with
      | nil => exact h.2.elim
      | cons q0 r0 =>
        obtain ⟨y, hy⟩ := m_er_eq h.2.1
        rw [hy]
        exact f7 z q0 r0 rfl
    · rcases f8 with z | ⟨q, b1, b2, b3⟩
      · exact Or.inl z
      · obtain ⟨q', c1, c2, c3⟩ := m_sh_mem h.2 q b1
        exact Or.inr ⟨q', c1, by rw [c2]; exact b2, by rw [c3]; exact b3⟩
    · obtain ⟨i1, i2⟩ := f9 z
      unfold w_iq
      rw [← a1, ← a2, ← a3, ← e]
      exact ⟨i1, i2⟩
  | [], f' :: r', h, _, _ => h.elim
  | f :: r, [], h, _, _ => h.elim
theorem m_set_sh {v : Nat} {x : Int32} : ∀ {l l' : List Fr}, m_set v x l = some l' → m_sh l l'
  | [], l', h => by cases h
  | f :: r, l', h => by
    obtain ⟨⟨nd, ev, ph, rm⟩, ⟨gt, x0, x1, x2⟩, ⟨la, bv, bx, ty⟩, dt, sc, sr, tg, pl⟩ := f
    have h : (if bv = v then some (((nd, ev, ph, rm), (gt, x0, x1, x2), (la, bv, x, ty), dt, sc, sr, tg, pl) :: r) else match m_set v x r with
      | some r' => some (((nd, ev, ph, rm), (gt, x0, x1, x2), (la, bv, bx, ty), dt, sc, sr, tg, pl) :: r')
      | none => none) = some l' := h
    by_cases e : bv = v
    · rw [if_pos e] at h
      cases h
      exact ⟨rfl, m_sh_refl r⟩
    · rw [if_neg e] at h
      cases hm : m_set v x r with
      | none => rw [hm] at h; cases h
      | some r' =>
        rw [hm] at h
        cases h
        exact ⟨rfl, m_set_sh hm⟩
theorem m_find_some {p : Fr → Bool} : ∀ {l : List Fr} {h : Nat}, m_find p l = some h → ∃ q r', (q :: r') <:+ l ∧ r'.length = h ∧ p q = true
  | [], h, e => by cases e
  | f :: r, h, e => by
    have e : (if p f = true then some r.length else m_find p r) = some h := e
    by_cases k : p f = true
    · rw [if_pos k] at e
      cases e
      exact ⟨f, r, List.suffix_refl _, rfl, k⟩
    · rw [if_neg k] at e
      obtain ⟨q, r', a, b⟩ := m_find_some e
      exact ⟨q, r', a.trans (List.suffix_cons _ _), b⟩
theorem m_find_ex {p : Fr → Bool} : ∀ {l : List Fr} {q : Fr}, q ∈ l → p q = true → ∃ h, m_find p l = some h
  | [], q, h, _ => by cases h
  | f :: r, q, h, e => by
    show ∃ h, (if p f = true then some r.length else m_find p r) = some h
    by_cases k : p f = true
    · exact ⟨_, if_pos k⟩
    · rw [if_neg k]
      rcases List.mem_cons.mp h with z | z
      · rw [z] at e; exact absurd e k
      · exact m_find_ex z e
theorem m_sf_some {g : mG} {t : Nat} : ∀ {l : List (Nat × Nat × Nat)} {c r}, m_sf g t l = some (c, r) → (c :: r) <:+ l ∧ gI g t (gA g c.2.1) = true
  | [], c, r, e => by cases e
  | a :: l, c, r, e => by
    have e : (if gI g t (gA g a.2.1) = true then some (a, l) else m_sf g t l) = some (c, r) := e
    by_cases k : gI g t (gA g a.2.1) = true
    · rw [if_pos k] at e
      cases e
      exact ⟨List.suffix_refl _, k⟩
    · rw [if_neg k] at e
      obtain ⟨x, y⟩ := m_sf_some e
      exact ⟨x.trans (List.suffix_cons _ _), y⟩
theorem m_kb_id (a : Nat) (v : Int32) : m_kb a (m_kb a v) = m_kb a v := by
  unfold m_kb
  by_cases h0 : a = 0
  · rw [if_pos h0, if_pos h0, Int32.and_assoc]; rfl
  · rw [if_neg h0, if_neg h0]
    by_cases h1 : a = 1
    · rw [if_pos h1, if_pos h1]
      exact Value.int.inj (pk_nb v)
    · rw [if_neg h1, if_neg h1]
      by_cases h2 : a = 2
      · rw [if_pos h2, if_pos h2]
        exact Value.int.inj (pk_ns v)
      · rw [if_neg h2, if_neg h2, Int32.and_assoc]; rfl
theorem rl_Ce_upd {ce : Nat → Int32} {a i : Nat} {v : Int32} (h : rl_Ce ce) (ha : a < 4) (hi : i < 16) : rl_Ce (upd ce (16 * a + i) (m_kb a v)) := by
  intro b j hb hj
  by_cases e : 16 * b + j = 16 * a + i
  · have e1 : b = a := by omega
    rw [e, pk_us, e1, m_kb_id]
  · rw [pk_un e]; exact h b j hb hj
