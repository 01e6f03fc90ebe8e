/-! the reference's side: every step, the run -/
section
variable {g : mG} {V : Nat → Prop} {Z : Nat → Nat} {pa : Nat → Option Nat} {T : Nat} {h_count h_open h_types : Int32} {c_sort c_op c_na c_nb c_up c_val c_size c_params c_parent : Nat → Int32} {s : St} {oc ret xt xv xy xp ha exi v : Int32} {be : Nat} {gv gh : Nat → Int32} {c_node c_got c_handle c_pTarget c_pPlace c_act c_mode c_bVar c_pType c_v0 c_v1 c_v2 c_last c_bVal c_pVal : Nat → Int32} {l r : List Fr} {f : Fr} {P : SY → Prop} {post : Int32 → SY → Prop} {N i p q : Nat}
theorem y_sim (G : g_w g V Z pa T) (Yt : yT g V h_count h_open h_types c_sort c_op c_na c_nb c_up c_val c_size c_params c_parent) {m : MS} {u : SY} (W : w_m g V Z pa m) (ht : m.1 < 4) (hpr : u_p m < 1000000) (R : py_R g h_count h_open h_types c_sort c_op c_na c_nb c_up c_val c_size c_params c_parent m u) (hi : i + 2 < 1000000) (H : ∀ p q, p + q = 2 → ∀ u', py_R g h_count h_open h_types c_sort c_op c_na c_nb c_up c_val c_size c_params c_parent (m_step g m) u' → yR post (N + p) (i + q) u') : yR post (N + 2) i u := by
  obtain ⟨t, v, tgt, t5, pp, l, s⟩ := m
  have ht : t < 4 := ht
  have hpr : sPr s < 1000000 := hpr
  obtain ⟨a1, a2, a3, _, b0, b1, b2, b3⟩ := W
  have hs : w_s g s := ⟨a2, a3⟩
  obtain ⟨oc, be, sp, ret, xt, xv, xy, xp, ha, exi, gv, gh, c_node, c_got, c_handle, c_pTarget, c_pPlace, c_act, c_mode, c_bVar, c_pType, c_v0, c_v1, c_v2, c_last, c_bVal, c_pVal, hg, hsp, r0, r1, r2, r3, rb, rfl⟩ := R
  obtain ⟨hsp, Y⟩ := hsp ht
  have hsp : sp = m_yh l := hsp
  subst hsp
  have Y : yL g c_node c_got c_handle c_pTarget c_pPlace c_act c_mode c_bVar c_pType c_v0 c_v1 c_v2 c_last c_bVal c_pVal l := Y
  have hg : yGl gv gh (sGl s) := hg
  have SET : ∀ {u}, yQ g V h_count h_open h_types c_sort c_op c_na c_nb c_up c_val c_size c_params c_parent (m_step g (t, v, tgt, t5, pp, l, s)) u → yR post (N + 1) (i + 1) u := fun hu => y_settle G Yt hi hu H
  have ht : t = 0 ∨ t = 1 ∨ t = 2 ∨ t = 3 := by omega
  rcases ht with rfl | rfl | rfl | rfl
  · obtain ⟨f, r, rfl, c1, c2, c3⟩ := b0 rfl
    have hfr : m_fc r ≤ gD g := Nat.le_trans (Nat.le_add_right _ _) a1
    obtain ⟨g1, g2, g3⟩ := r0 rfl
    subst g1 g2
    obtain ⟨⟨nd, ev, ph, rm⟩, ⟨gt, x0, x1, x2⟩, ⟨la, bv, bx, ty⟩, dt, sc, sr, tg, pl⟩ := f
    have c1 : ph = 0 ∨ ph = 1 ∨ ph = 3 := c1
    have em : m_yh (((nd, ev, ph, rm), (gt, x0, x1, x2), (la, bv, bx, ty), dt, sc, sr, tg, pl) :: r) = m_yh r + 1 := m_yh_1 (by show ph ≠ 7; omega) (by show ph ≠ 4; omega)
    have h9 : gO g nd = 9 → gt ≠ 1 := by
      intro z1 z2
      rcases c3.2 with z | z
      · have z : ph = 3 := z
        obtain ⟨_, _, f3, _⟩ := c2.1
        rcases f3 with h | h | h | h | h | h | h | h | h | h <;> omega
      · have z : gt = 0 := z
        omega
    show yR post (N + 2) i (yU g h_count h_open h_types c_sort c_op c_na c_nb c_up c_val c_size c_params c_parent (y_z0 oc) 1 be s (m_yh (((nd, ev, ph, rm), (gt, x0, x1, x2), (la, bv, bx, ty), dt, sc, sr, tg, pl) :: r)) ret xt xv xy xp 0 0 gv gh c_node c_got c_handle c_pTarget c_pPlace c_act c_mode c_bVar c_pType c_v0 c_v1 c_v2 c_last c_bVal c_pVal)
    rw [em]
    refine y_go (by omega) (show ¬ (1 : Int32) = 0 by decide) ?_
    exact y_adv0 G Yt c2.1 c2.2 c1 c3.1 hfr hs hpr hg Y g3 h9 (fun u' hu => SET hu)
  · obtain ⟨c1, c2⟩ := b1 rfl
    cases l with
    | nil => exact absurd rfl c1
    | cons f r =>
      have hfr : m_fc r ≤ gD g := Nat.le_trans (Nat.le_add_right _ _) a1
      obtain ⟨g1, g2, g3⟩ := r1 rfl
      have g3 : ret = v := g3
      subst g1 g2 g3
      have rb : be = sBe s := rb (Nat.le_refl _)
      subst rb
      obtain ⟨⟨nd, ev, ph, rm⟩, ⟨gt, x0, x1, x2⟩, ⟨la, bv, bx, ty⟩, dt, sc, sr, tg, pl⟩ := f
      by_cases p48 : ph = 4 ∨ ph = 8
      · have e0 : m_step g (1, ret, tgt, t5, pp, ((nd, ev, ph, rm), (gt, x0, x1, x2), (la, bv, bx, ty), dt, sc, sr, tg, pl) :: r, s) = (2, 0, none, 0, 0, ((nd, ev, ph, rm), (gt, x0, x1, x2), (la, bv, bx, ty), dt, sc, sr, tg, pl) :: r, s) := if_pos p48
        rw [e0] at H
        exact H 2 0 rfl _ ⟨oc, sBe s, m_yh (((nd, ev, ph, rm), (gt, x0, x1, x2), (la, bv, bx, ty), dt, sc, sr, tg, pl) :: r), ret, xt, xv, xy, xp, 1, 0, gv, gh, c_node, c_got, c_handle, c_pTarget, c_pPlace, c_act, c_mode, c_bVar, c_pType, c_v0, c_v1, c_v2, c_last, c_bVal, c_pVal, hg, fun _ => ⟨rfl, Y⟩, fun z => (by cases z), fun z => (by cases z), fun _ => rfl, fun z => (by cases z), fun _ => rfl, rfl⟩
      · by_cases p7 : ph = 7
        · subst p7
          obtain ⟨q0, r0', e0, p0, s0⟩ := c2.1.2.2.2.2.2.1 rfl
          subst e0
          have hrm : rm = [] := by
            obtain ⟨_, _, f3, _⟩ := c2.1
            rcases f3 with h | h | h | h | h | h | h | h | h | h
            · omega
            · omega
            · omega
            · omega
            · omega
            · omega
            · omega
            · omega
            · exact h.2.2
            · omega
          subst hrm
          have e0 : m_step g (1, ret, tgt, t5, pp, ((nd, ev, 7, []), (gt, x0, x1, x2), (la, bv, bx, ty), dt, sc, sr, tg, pl) :: q0 :: r0', s) = (1, ret, none, 0, 0, q0 :: r0', s) := rfl
          rw [e0] at H
          exact H 2 0 rfl _ ⟨oc, sBe s, m_yh (q0 :: r0'), ret, xt, xv, xy, xp, 1, 0, gv, gh, c_node, c_got, c_handle, c_pTarget, c_pPlace, c_act, c_mode, c_bVar, c_pType, c_v0, c_v1, c_v2, c_last, c_bVal, c_pVal, hg, fun _ => ⟨rfl, Y.2⟩, fun z => (by cases z), fun _ => ⟨rfl, rfl, rfl⟩, fun z => (by cases z), fun z => (by cases z), fun _ => rfl, rfl⟩
        · have em : m_yh (((nd, ev, ph, rm), (gt, x0, x1, x2), (la, bv, bx, ty), dt, sc, sr, tg, pl) :: r) = m_yh r + 1 := m_yh_1 p7 (fun z => p48 (Or.inl z))
          show yR post (N + 2) i (yU g h_count h_open h_types c_sort c_op c_na c_nb c_up c_val c_size c_params c_parent (y_z0 oc) 1 (sBe s) s (m_yh (((nd, ev, ph, rm), (gt, x0, x1, x2), (la, bv, bx, ty), dt, sc, sr, tg, pl) :: r)) ret xt xv xy xp 1 0 gv gh c_node c_got c_handle c_pTarget c_pPlace c_act c_mode c_bVar c_pType c_v0 c_v1 c_v2 c_last c_bVal c_pVal)
          rw [em]
          refine y_go (by omega) (show ¬ (1 : Int32) = 0 by decide) ?_
          exact y_advh G Yt c2.1 c2.2 (fun z => p48 (Or.inl z)) p7 (fun z => p48 (Or.inr z)) hfr hs hpr hg Y (fun u' hu => SET hu)
  · obtain ⟨f, r, rfl, c1, c2⟩ := b2 rfl
    have g2 : exi = 0 := r2 rfl
    subst g2
    have rb : be = sBe s := rb (by show 1 ≤ 2; decide)
    subst rb
    obtain ⟨⟨nd, ev, ph, rm⟩, ⟨gt, x0, x1, x2⟩, ⟨la, bv, bx, ty⟩, dt, sc, sr, tg, pl⟩ := f
    show yR post (N + 2) i (yU g h_count h_open h_types c_sort c_op c_na c_nb c_up c_val c_size c_params c_parent (y_z0 oc) 1 (sBe s) s (m_yh (((nd, ev, ph, rm), (gt, x0, x1, x2), (la, bv, bx, ty), dt, sc, sr, tg, pl) :: r)) ret xt xv xy xp ha 0 gv gh c_node c_got c_handle c_pTarget c_pPlace c_act c_mode c_bVar c_pType c_v0 c_v1 c_v2 c_last c_bVal c_pVal)
    refine y_go (by omega) (show ¬ (1 : Int32) = 0 by decide) ?_
    exact y_srch G Yt c2.1 c2.2 c1 hs hg Y (fun u' hu => SET hu)
  · obtain ⟨c1, c2, c3⟩ := b3 rfl
    obtain ⟨g1, g2, g3, g4, g5⟩ := r3 rfl
    have g3 : xv = v := g3
    have g4 : xt = y_tg tgt l := g4
    subst g1 g2 g3 g4
    have rb : be = sBe s := rb (by show 1 ≤ 3; decide)
    subst rb
    cases l with
    | nil =>
      have htn : tgt = none := by
        cases htg : tgt with
        | none => rfl
        | some k =>
          obtain ⟨q, r', a1, _⟩ := c2 k htg
          exact absurd (List.suffix_nil.mp a1) (by simp)
      obtain ⟨g6, g7⟩ := g5 htn
      have g6 : xy = nI t5 := g6
      have g7 : xp = pp := g7
      subst g6 g7
      show yR post (N + 2) i (yU g h_count h_open h_types c_sort c_op c_na c_nb c_up c_val c_size c_params c_parent (y_z0 oc) 1 (sBe s) s 0 ret (y_tg tgt []) xv (nI t5) xp 0 1 gv gh c_node c_got c_handle c_pTarget c_pPlace c_act c_mode c_bVar c_pType c_v0 c_v1 c_v2 c_last c_bVal c_pVal)
      refine y_go (by omega) (show ¬ (1 : Int32) = 0 by decide) ?_
      refine br_f (by decide) ?_
      refine nm_e ?_
      refine br_f (by decide) ?_
      show yR post (N + 1) (i + 1) (yU g h_count h_open h_types c_sort c_op c_na c_nb c_up c_val c_size c_params c_parent (1, 0, nI t5, xv, xp) 0 (sBe s) s 0 ret (y_tg tgt []) xv (nI t5) xp 0 1 gv gh c_node c_got c_handle c_pTarget c_pPlace c_act c_mode c_bVar c_pType c_v0 c_v1 c_v2 c_last c_bVal c_pVal)
      exact H 1 1 rfl _ ⟨oc, sBe s, 0, ret, y_tg tgt [], xv, nI t5, xp, 0, 1, gv, gh, c_node, c_got, c_handle, c_pTarget, c_pPlace, c_act, c_mode, c_bVar, c_pType, c_v0, c_v1, c_v2, c_last, c_bVal, c_pVal, hg, fun z => absurd z (by show ¬ 5 < 4; decide), fun z => (by cases z), fun z => (by cases z), fun z => (by cases z), fun z => (by cases z), fun _ => rfl, rfl⟩
    | cons f r =>
      have FW : w_l g V Z pa 1 (f :: r) ∨ w_l g V Z pa 0 (f :: r) ∧ (gO g (fr_nd f) = 12 ∨ gO g (fr_nd f) = 14 ∨ gO g (fr_nd f) = 19) := by
        rcases c1 with z | ⟨f', r', e, z1, z2⟩
        · exact Or.inl z
        · injection e with e1 e2
          subst e1 e2
          exact Or.inr ⟨z1, z2⟩
      obtain ⟨⟨nd, ev, ph, rm⟩, ⟨gt, x0, x1, x2⟩, ⟨la, bv, bx, ty⟩, dt, sc, sr, tg, pl⟩ := f
      exact y_leaveR G Yt FW c2 c3 hs hg Y g5 hi H
theorem y_run (G : g_w g V Z pa T) (Yt : yT g V h_count h_open h_types c_sort c_op c_na c_nb c_up c_val c_size c_params c_parent) : ∀ (b : Nat) {m : MS} {u : SY} {N i : Nat}, w_m g V Z pa m → u_m g Z m ≤ b → u_p m + b < 1000000 → py_R g h_count h_open h_types c_sort c_op c_na c_nb c_up c_val c_size c_params c_parent m u → i + 2 * b < 1000000 → (4 ≤ (m_it g b m).1 → ∀ N i u', i < 1000000 → py_R g h_count h_open h_types c_sort c_op c_na c_nb c_up c_val c_size c_params c_parent (m_it g b m) u' → yR post (N + 1) i u') → yR post (2 * b + 1 + N) i u
  | 0, m, u, N, i, W, hu, hp, R, hi, H => by
    have h4 : 4 ≤ m.1 := by
      rcases Nat.lt_or_ge m.1 4 with z | z
      · have := (w_step G W z).2
        omega
      · exact z
    have := H h4 N i u (by omega) R
    rw [Nat.mul_zero, Nat.zero_add, Nat.add_comm]
    exact this
  | b + 1, m, u, N, i, W, hu, hp, R, hi, H => by
    rcases Nat.lt_or_ge m.1 4 with z | z
    · obtain ⟨⟨s1, s2, s3⟩, s4⟩ := w_step G W z
      have e : 2 * (b + 1) + 1 + N = (2 * b + 1 + N) + 2 := by omega
      rw [e]
      refine y_sim G Yt W z (by omega) R (by omega) (fun p q hpq u' R' => ?_)
      have e2 : 2 * b + 1 + N + p = 2 * b + 1 + (N + p) := by omega
      rw [e2]
      exact y_run G Yt b s1 (by omega) (by omega) R' (by omega) H
    · rw [m_it_done z] at H
      have := H z (2 * (b + 1) + N) i u (by omega) R
      have e : 2 * (b + 1) + 1 + N = 2 * (b + 1) + N + 1 := by omega
      rw [e]
      exact this
end
