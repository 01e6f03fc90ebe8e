/-! the reference's side: applying -/
section
variable {g : mG} {V : Nat → Prop} {Z : Nat → Nat} {pa : Nat → Option Nat} {T : Nat} {h_count h_open h_types : Int32} {c_sort c_op c_na c_nb c_up c_val c_size c_params c_parent : Nat → Int32} {s : St} {oc ret xt xv xy xp ha exi v : Int32} {be : Nat} {gv gh : Nat → Int32} {c_node c_got c_handle c_pTarget c_pPlace c_act c_mode c_bVar c_pType c_v0 c_v1 c_v2 c_last c_bVal c_pVal : Nat → Int32} {l r : List Fr} {f : Fr} {P : SY → Prop} {post : Int32 → SY → Prop} {N i p q : Nat}
theorem m_set_cons {v : Nat} {x : Int32} {f : Fr} {r r1 : List Fr} (hb : fr_bv f ≠ v) (h : m_set v x (f :: r) = some r1) : ∃ r2, m_set v x r = some r2 ∧ r1 = f :: r2 := by
  obtain ⟨⟨nd, ev, ph, rm⟩, ⟨gt, x0, x1, x2⟩, ⟨la, bv, bx, ty⟩, dt, sc, sr, tg, pl⟩ := f
  have hb : bv ≠ v := hb
  have h : (if bv = v then some (((nd, ev, ph, rm), (gt, x0, x1, x2), (la, bv, x, ty), dt, sc, sr, tg, pl) :: r) else match m_set v x r with
    | some r' => some (((nd, ev, ph, rm), (gt, x0, x1, x2), (la, bv, bx, ty), dt, sc, sr, tg, pl) :: r')
    | none => none) = some r1 := h
  rw [if_neg hb] at h
  cases hm : m_set v x r with
  | none => rw [hm] at h; cases h
  | some r2 =>
    rw [hm] at h
    cases h
    exact ⟨r2, rfl, rfl⟩
theorem yL_set : ∀ {r r' : List Fr} {w v k : Nat} {x : Int32}, m_set v x r = some r' → 8 ≤ v → w_l g V Z pa w r → (∀ q r', r = q :: r' → fr_ph q ≠ 4 ∧ fr_ph q ≠ 8) → yL g c_node c_got c_handle c_pTarget c_pPlace c_act c_mode c_bVar c_pType c_v0 c_v1 c_v2 c_last c_bVal c_pVal r → y_bi v r = some k → k < m_yh r ∧ yL g c_node c_got c_handle c_pTarget c_pPlace c_act c_mode c_bVar c_pType c_v0 c_v1 c_v2 c_last (upd c_bVal k x) c_pVal r'
  | [], r', w, v, k, x, h, _, _, _, _, _ => by cases h
  | f :: r, r', w, v, k, x, h, hv, W, hq, Y, hb => by
    obtain ⟨h4, h8⟩ := hq f r rfl
    have hm := m_yh_p (f := f) (r := r)
    have hb0 : y_bi v (f :: r) = if fr_bv f = v then some (if fr_ph f = 7 then m_yh r - 1 else m_yh r) else y_bi v r := rfl
    rw [hb0] at hb
    have Y1 := Y.1
    obtain ⟨⟨nd, ev, ph, rm⟩, ⟨gt, x0, x1, x2⟩, ⟨la, bv, bx, ty⟩, dt, sc, sr, tg, pl⟩ := f
    have h4 : ph ≠ 4 := h4
    have h8 : ph ≠ 8 := h8
    have h : (if bv = v then some (((nd, ev, ph, rm), (gt, x0, x1, x2), (la, bv, x, ty), dt, sc, sr, tg, pl) :: r) else match m_set v x r with
      | some r' => some (((nd, ev, ph, rm), (gt, x0, x1, x2), (la, bv, bx, ty), dt, sc, sr, tg, pl) :: r')
      | none => none) = some r' := h
    have hbb : (if bv = v then some (if ph = 7 then m_yh r - 1 else m_yh r) else y_bi v r) = some k := hb
    clear hb hb0
    have hm : m_yh (((nd, ev, ph, rm), (gt, x0, x1, x2), (la, bv, bx, ty), dt, sc, sr, tg, pl) :: r) = m_yh r + (if ph = 7 then 0 else if ph = 4 then 2 else 1) := hm
    by_cases e : bv = v
    · rw [if_pos e] at h hbb
      cases h
      injection hbb with hbb
      by_cases p7 : ph = 7
      · subst p7
        rw [if_pos rfl] at hbb hm
        obtain ⟨q0, r0, e0, p0, s0⟩ := W.1.2.2.2.2.2.1 rfl
        have hp : 1 ≤ m_yh r := w_yh_pos W.2 (by rw [e0]; simp)
        have Y1 : c_bVar (m_yh r - 1) = y_bv bv ∧ (bv ≠ 0 → c_bVal (m_yh r - 1) = bx) ∧ ∀ q r', r = q :: r' → c_handle (m_yh r - 1) = nI (y_at r' (fr_sr q)) := Y1
        refine ⟨by omega, ⟨Y1.1, fun _ => ?_, Y1.2.2⟩, ?_⟩
        · rw [← hbb]; exact pk_us
        · subst e0
          have W2 := W.2
          have g7 := (w_48 p0).1
          have b0 : fr_bv q0 = 0 := w_bd48 W2.1.2.2.2.1 p0
          have Yq := Y.2
          have hq0 := m_yh_p (f := q0) (r := r0)
          rw [if_neg g7] at hq0
          have hk0 : m_yh r0 ≤ k := by
            rw [← hbb, hq0]
            split <;> omega
          refine ⟨?_, yL_keep W2.2 Yq.2 yE_r yE_r yE_r yE_r yE_r yE_r yE_r yE_r yE_r yE_r yE_r yE_r yE_r (yE_u yE_r hk0) yE_r⟩
          have Yq1 := Yq.1
          unfold yF at Yq1 ⊢
          rw [if_neg g7] at Yq1 ⊢
          by_cases q4 : fr_ph q0 = 4
          · rw [if_pos q4] at Yq1 ⊢
            exact Yq1
          · rw [if_neg q4] at Yq1 ⊢
            have q8 : fr_ph q0 = 8 := by omega
            rw [if_pos q8] at Yq1 ⊢
            exact Yq1
      · rw [if_neg p7] at hbb hm
        rw [if_neg h4] at hm
        have Y1 := (yF_A (f := ((nd, ev, ph, rm), (gt, x0, x1, x2), (la, bv, bx, ty), dt, sc, sr, tg, pl)) p7 h4 h8).mp Y1
        refine ⟨by omega, ?_, yL_keep W.2 Y.2 yE_r yE_r yE_r yE_r yE_r yE_r yE_r yE_r yE_r yE_r yE_r yE_r yE_r (yE_u yE_r (by omega)) yE_r⟩
        refine (yF_A (f := ((nd, ev, ph, rm), (gt, x0, x1, x2), (la, bv, x, ty), dt, sc, sr, tg, pl)) p7 h4 h8).mpr ?_
        obtain ⟨a1, a2, a3, a4, a5, a6⟩ := Y1
        exact ⟨a1, a2, a3, a4, fun z => ⟨(a5 z).1, fun _ => by rw [← hbb]; exact pk_us⟩, a6⟩
    · rw [if_neg e] at h hbb
      cases hm1 : m_set v x r with
      | none => rw [hm1] at h; cases h
      | some r1 =>
        rw [hm1] at h
        cases h
        have sh := m_set_sh hm1
        obtain ⟨s1, s2, s3, _⟩ := m_sh_fun (g := g) (Z := Z) sh
        have hat : ∀ hh, y_at r1 hh = y_at r hh := by
          intro hh
          unfold y_at
          rw [← m_sh_len sh, ← (m_sh_fun (g := g) (Z := Z) (m_sh_drop _ sh)).2.2.1]
        by_cases p7 : ph = 7
        · subst p7
          rw [if_pos rfl] at hm
          obtain ⟨q0, r0, e0, p0, s0⟩ := W.1.2.2.2.2.2.1 rfl
          have hp : 1 ≤ m_yh r := w_yh_pos W.2 (by rw [e0]; simp)
          have Y1 : c_bVar (m_yh r - 1) = y_bv bv ∧ (bv ≠ 0 → c_bVal (m_yh r - 1) = bx) ∧ ∀ q r', r = q :: r' → c_handle (m_yh r - 1) = nI (y_at r' (fr_sr q)) := Y1
          subst e0
          have g7 := (w_48 p0).1
          have b0 : fr_bv q0 = 0 := w_bd48 W.2.1.2.2.2.1 p0
          have hb2 : y_bi v (q0 :: r0) = y_bi v r0 := if_neg (by omega)
          have hbb : y_bi v (q0 :: r0) = some k := hbb
          rw [hb2] at hbb
          obtain ⟨r2, hm2, e1⟩ := m_set_cons (by omega) hm1
          subst e1
          have sh2 := m_set_sh hm2
          have hq0 := m_yh_p (f := q0) (r := r0)
          have hq2 := m_yh_p (f := q0) (r := r2)
          rw [if_neg g7] at hq0 hq2
          have e2 : m_yh r2 = m_yh r0 := ((m_sh_fun (g := g) (Z := Z) sh2).2.2.1).symm
          have e3 : m_yh (q0 :: r2) = m_yh (q0 :: r0) := by rw [hq0, hq2, e2]
          have hat2 : ∀ hh, y_at r2 hh = y_at r0 hh := by
            intro hh
            unfold y_at
            rw [← m_sh_len sh2, ← (m_sh_fun (g := g) (Z := Z) (m_sh_drop _ sh2)).2.2.1]
          obtain ⟨i1, i2⟩ := yL_set hm2 hv W.2.2 (W.2.1.2.2.2.2.2.2.1 g7) Y.2.2 hbb
          have hkl : k < m_yh (q0 :: r0) - 1 := by
            rw [hq0]
            split <;> omega
          refine ⟨by omega, ?_, ?_, i2⟩
          · show c_bVar (m_yh (q0 :: r2) - 1) = y_bv bv ∧ (bv ≠ 0 → upd c_bVal k x (m_yh (q0 :: r2) - 1) = bx) ∧ ∀ q r', q0 :: r2 = q :: r' → c_handle (m_yh (q0 :: r2) - 1) = nI (y_at r' (fr_sr q))
            rw [e3, pk_un (by omega)]
            refine ⟨Y1.1, Y1.2.1, fun q r' e => ?_⟩
            injection e with e4 e5
            rw [← e4, ← e5, hat2]
            exact Y1.2.2 q0 r0 rfl
          · have Yq1 := Y.2.1
            unfold yF at Yq1 ⊢
            rw [if_neg g7] at Yq1 ⊢
            rw [e2, hat2, ← m_sh_len sh2]
            by_cases q4 : fr_ph q0 = 4
            · rw [if_pos q4] at Yq1 ⊢
              exact Yq1
            · rw [if_neg q4] at Yq1 ⊢
              have q8 : fr_ph q0 = 8 := by omega
              rw [if_pos q8] at Yq1 ⊢
              exact Yq1
        · rw [if_neg p7, if_neg h4] at hm
          have Y1 := (yF_A (f := ((nd, ev, ph, rm), (gt, x0, x1, x2), (la, bv, bx, ty), dt, sc, sr, tg, pl)) p7 h4 h8).mp Y1
          obtain ⟨i1, i2⟩ := yL_set hm1 hv W.2 (W.1.2.2.2.2.2.2.1 p7) Y.2 hbb
          refine ⟨by omega, ?_, i2⟩
          refine (yF_A (f := ((nd, ev, ph, rm), (gt, x0, x1, x2), (la, bv, bx, ty), dt, sc, sr, tg, pl)) p7 h4 h8).mpr ?_
          obtain ⟨a1, a2, a3, a4, a5, a6, a7, a8, a9, a10, a11⟩ := Y1
          rw [← s3]
          refine ⟨a1, a2, a3, a4, fun z => ⟨(a5 z).1, fun z2 => ?_⟩, a6, a7, a8, a9, a10, fun z => ⟨(a11 z).1, ?_, (a11 z).2.2⟩⟩
          · rw [pk_un (by omega)]; exact (a5 z).2 z2
          · rw [(a11 z).2.1]
            cases tg with
            | none => rfl
            | some hh => exact congrArg nI (hat hh).symm
end
