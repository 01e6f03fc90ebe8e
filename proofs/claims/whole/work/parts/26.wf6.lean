/-! every step keeps it: searching, leaving; the step -/
section
variable {g : mG} {V : Nat → Prop} {Z : Nat → Nat} {pa : Nat → Option Nat} {T : Nat}
theorem m_suf_drop {l r : List Fr} {q : Fr} (h : (q :: r) <:+ l) : l.drop (l.length - r.length) = r ∧ r.length < l.length := by
  have h2 : r <:+ l := (List.suffix_cons q r).trans h
  have e := (List.suffix_iff_eq_drop.mp h2).symm
  have := h.length_le
  have : r.length + 1 ≤ l.length := this
  exact ⟨e, by omega⟩
theorem m_pla_k {n : Nat} (h : n < 392) : ∃ k, k < 1000 ∧ m_pla n = nI k := by
  unfold m_pla
  split
  · exact ⟨_, by omega, rfl⟩
  · exact ⟨_, by omega, rfl⟩
theorem w_cs {n e : Nat} {v : Int32} {s : St} (hs : w_s g s) : w_s g (m_cs g n e v s) ∧ sBe (m_cs g n e v s) = sBe s ∧ sPr (m_cs g n e v s) = sPr s := by
  unfold m_cs
  split
  · exact ⟨hs, rfl, rfl⟩
  · exact ⟨hs, rfl, rfl⟩
theorem w_cv (G : g_w g V Z pa T) {n : Nat} (hV : V n) (h1 : 16 ≤ gO g n) (h2 : gO g n ≤ 18) : m_cv g n = 0 ∨ (8 ≤ m_cv g n ∧ m_cv g n < 12) := by
  obtain ⟨_, _, _, _, _, _, _, _, _, n10, _⟩ := G.1 n hV
  have := n10 h1 h2
  unfold m_cv
  split
  · exact Or.inl rfl
  · exact Or.inr ⟨by omega, this⟩
theorem w_cl (G : g_w g V Z pa T) {n : Nat} (hV : V n) (h1 : 16 ≤ gO g n) (h2 : gO g n ≤ 18) : V ((gK g n).getD 0 0) ∧ pa ((gK g n).getD 0 0) = some n ∧ Z ((gK g n).getD 0 0) + 1 ≤ Z n := by
  have N := G.1 n hV
  have hl := fo_lst (k := 1) N (by omega) (by unfold fo_least; rw [if_neg (by omega), if_neg (by omega), if_neg (by omega)])
  obtain ⟨a, _⟩ := fo_get0 (Z := Z) hl
  obtain ⟨b1, b2⟩ := N.2.2.2.2.1 _ a
  have := fo_sum_mem (Z := Z) a
  have := (w_ks G hV).1
  exact ⟨b1, b2, by omega⟩
theorem w_ar1 {Y zn zc kY kX kY' kX' c y1 L : Nat} (h1 : 2 * Y + 3 * zn + 1 + kY + 170 * (5 - c) ≤ 1040) (h2 : 2 * L + 4 * zn + kX + 224 * (5 - c) ≤ 1400) (k1 : 3 * zc + 1 + kY' ≤ kY) (k2 : 4 * zc + 2 + kX' ≤ kX) (hz : 1 ≤ zn) (hy : y1 ≤ 2 + Y) : 2 * y1 + 3 * zc + 1 + kY' + 170 * (5 - c) ≤ 1040 ∧ 2 * (L + 1 + 1) + 4 * zc + kX' + 224 * (5 - c) ≤ 1400 := by omega
theorem w_ar2 {F b u r z : Nat} (hb : ¬ F ≤ b) (hz : z ≤ 56) (hu : 4 ≤ u) : 1000 * (F - (b + 1)) + (4 + (u + r)) + 16 * z ≤ 1 + 1000 * (F - b) + u + r := by omega
theorem w_srF7 (G : g_w g V Z pa T) {nd ev ph gt bv ty sr : Nat} {rm : List Nat} {x0 x1 x2 la bx dt pl : Int32} {sc : List (Nat × Nat × Nat)} {tg : Option Nat} {r r' : List Fr} {q : Fr} {h n e : Nat} {t : List (Nat × Nat × Nat)} (hp : ph = 4 ∨ ph = 8) (q1 : (q :: r') <:+ r) (q3 : fr_nd q = n) (q4 : fr_ev q = e) (Q : w_f g V Z pa 1 q r') (hO16 : gO g n = 16) : w_f g V Z pa 1 ((n, e, 7, []), (0, 0, 0, 0), (0, m_cv g n, dt, 0), 0, t, 0, none, 0) (((nd, ev, ph, rm), (gt, x0, x1, x2), (la, bv, bx, ty), dt, t, h, tg, pl) :: r) := by
  have hVn : V n := by rw [← q3]; exact Q.1
  have he : e ≤ 5 := by rw [← q4]; exact Q.2.1
  refine ⟨hVn, he, Or.inr (Or.inr (Or.inr (Or.inr (Or.inr (Or.inr (Or.inr (Or.inr (Or.inl ⟨rfl, hO16, rfl⟩)))))))), ?_, fun z => ?_, fun _ => ⟨_, r, rfl, hp, rfl⟩, fun z => absurd rfl z, ?_, fun z => absurd rfl z, fun z => (by cases z)⟩
  · rcases w_cv G hVn (by omega) (by omega) with z | z
    · exact Or.inl z
    · exact Or.inr ⟨z.1, z.2, Or.inr (Or.inr rfl)⟩
  · rcases z with z | z <;> cases z
  · have := Q.2.2.2.2.2.2.2.1
    rw [q3, q4] at this
    exact w_lx_mono (((List.suffix_cons q r').trans q1).trans (List.suffix_cons _ _)) this
theorem w_srFs {nd ev ph gt bv ty sr : Nat} {rm : List Nat} {x0 x1 x2 la bx dt pl : Int32} {sc : List (Nat × Nat × Nat)} {tg : Option Nat} {r r' : List Fr} {q : Fr} {h n e : Nat} {t : List (Nat × Nat × Nat)} (hp : ph = 4 ∨ ph = 8) (F : w_f g V Z pa 1 ((nd, ev, ph, rm), (gt, x0, x1, x2), (la, bv, bx, ty), dt, sc, sr, tg, pl) r) (W : w_l g V Z pa 1 r) (c3 : ((h, n, e) :: t) <:+ m_ch g r) (q1 : (q :: r') <:+ r) (q2 : r'.length = h) (q5 : fr_ph q = 1) (q7 : m_ch g r' = t) : w_f g V Z pa 1 ((nd, ev, ph, rm), (gt, x0, x1, x2), (la, bv, bx, ty), dt, t, h, tg, pl) r := by
  obtain ⟨f1, f2, f3, f4, f5, f6, f7, f8, f9, f10⟩ := F
  obtain ⟨s1, s2, s3, s4, s5⟩ := f5 hp
  obtain ⟨d1, d2⟩ := m_suf_drop q1
  refine ⟨f1, f2, f3, f4, fun _ => ⟨(List.suffix_cons _ _).trans c3, by show h ≤ r.length; omega, ?_, s4, s5.1, fun p r1 e => ?_⟩, fun z => ?_, f7, f8, f9, f10⟩
  · show m_ch g (r.drop (r.length - h)) = t
    rw [← q2, d1]; exact q7
  · have e : r.drop (r.length - h) = p :: r1 := e
    rw [← q2, d1] at e
    exact (w_suf W q1).1.2.2.2.2.2.2.1 (by rw [q5]; decide) p r1 e
  · have z : ph = 7 := z
    omega
theorem w_srH (G : g_w g V Z pa T) {nd ev ph gt bv ty sr : Nat} {rm : List Nat} {x0 x1 x2 la bx dt pl : Int32} {sc : List (Nat × Nat × Nat)} {tg : Option Nat} {r r' : List Fr} {q : Fr} {s : St} {h n e : Nat} {t : List (Nat × Nat × Nat)} (F : w_f g V Z pa 1 ((nd, ev, ph, rm), (gt, x0, x1, x2), (la, bv, bx, ty), dt, sc, sr, tg, pl) r) (W : w_l g V Z pa 1 r) (hp : ph = 4 ∨ ph = 8) (hfr : m_fc r ≤ gD g) (hs : w_s g s) (c3 : ((h, n, e) :: t) <:+ m_ch g r) (q1 : (q :: r') <:+ r) (q2 : r'.length = h) (q3 : fr_nd q = n) (q4 : fr_ev q = e) (q5 : fr_ph q = 1) (q7 : m_ch g r' = t) (hO16 : gO g n = 16) (hbe : ¬ gF g ≤ sBe s) : w_ok g V Z pa (1 + 1000 * (gF g - sBe s) + u_f g Z ((nd, ev, ph, rm), (gt, x0, x1, x2), (la, bv, bx, ty), dt, sc, sr, tg, pl) + u_l g Z r) (sPr s + 1) (m_ev g ((gK g n).getD 0 0) e (((n, e, 7, []), (0, 0, 0, 0), (0, m_cv g n, dt, 0), 0, t, 0, none, 0) :: ((nd, ev, ph, rm), (gt, x0, x1, x2), (la, bv, bx, ty), dt, t, h, tg, pl) :: r) (m_cs g n e dt (s_be s (sBe s + 1)))) := by
  obtain ⟨Q, QW⟩ := w_suf W q1
  have hVn : V n := by rw [← q3]; exact Q.1
  have he : e ≤ 5 := by rw [← q4]; exact Q.2.1
  obtain ⟨cl1, cl2, cl3⟩ := w_cl G hVn (by omega) (by omega)
  have Fs := w_srFs (h := h) hp F W c3 q1 q2 q5 q7
  have F7 : w_f g V Z pa 1 ((n, e, 7, []), (0, 0, 0, 0), (0, m_cv g n, dt, 0), 0, t, 0, none, 0) (((nd, ev, ph, rm), (gt, x0, x1, x2), (la, bv, bx, ty), dt, t, h, tg, pl) :: r) := w_srF7 (sc := sc) (sr := sr) G hp q1 q3 q4 Q hO16
  have fcf : m_fc (((nd, ev, ph, rm), (gt, x0, x1, x2), (la, bv, bx, ty), dt, t, h, tg, pl) :: r) = m_fc r := w_fc_ne (by show ph ≠ 6; omega)
  have ef : m_fc (((n, e, 7, []), (0, 0, 0, 0), (0, m_cv g n, dt, 0), 0, t, 0, none, 0) :: ((nd, ev, ph, rm), (gt, x0, x1, x2), (la, bv, bx, ty), dt, t, h, tg, pl) :: r) = m_fc r := by
    rw [w_fc_ne (by show (7 : Nat) ≠ 6; decide)]; exact fcf
  have ec : m_ch g (((n, e, 7, []), (0, 0, 0, 0), (0, m_cv g n, dt, 0), 0, t, 0, none, 0) :: ((nd, ev, ph, rm), (gt, x0, x1, x2), (la, bv, bx, ty), dt, t, h, tg, pl) :: r) = t := if_pos rfl
  have ey : m_yh (((n, e, 7, []), (0, 0, 0, 0), (0, m_cv g n, dt, 0), 0, t, 0, none, 0) :: ((nd, ev, ph, rm), (gt, x0, x1, x2), (la, bv, bx, ty), dt, t, h, tg, pl) :: r) ≤ 2 + m_yh r := by
    show m_yh r + (if ph = 7 then 0 else if ph = 4 then 2 else 1) + 0 ≤ 2 + m_yh r
    split
    · omega
    · split <;> omega
  have eu : u_f g Z ((nd, ev, ph, rm), (gt, x0, x1, x2), (la, bv, bx, ty), dt, t, h, tg, pl) = u_f g Z ((nd, ev, ph, rm), (gt, x0, x1, x2), (la, bv, bx, ty), dt, sc, sr, tg, pl) := by rw [u_fT, u_fT]
  have e7 : u_f g Z ((n, e, 7, []), (0, 0, 0, 0), (0, m_cv g n, dt, 0), 0, t, 0, none, 0) = 4 := by
    rw [u_fT, if_neg (by omega), if_neg (by omega)]; rfl
  obtain ⟨w1, w2, w3⟩ := w_cs (g := g) (n := n) (e := e) (v := dt) (s := s_be s (sBe s + 1)) ⟨by show sBe s + 1 ≤ gF g; omega, hs.2⟩
  have w2 : sBe (m_cs g n e dt (s_be s (sBe s + 1))) = sBe s + 1 := w2
  have w3 : sPr (m_cs g n e dt (s_be s (sBe s + 1))) = sPr s := w3
  obtain ⟨f1, f2, f3, f4, f5, f6, f7, f8, f9, f10⟩ := F
  obtain ⟨i1, i2⟩ := f9 (by show ph ≠ 7; omega)
  obtain ⟨y1, y2⟩ := w_kY_suf (g := g) (Z := Z) c3
  have y1 : (if gO g n = 16 then 3 * Z ((gK g n).getD 0 0) + 1 else 0) + w_kY g Z t ≤ w_kY g Z (m_ch g r) := y1
  have y2 : (if gO g n = 16 then 4 * Z ((gK g n).getD 0 0) + 2 else 0) + w_kX g Z t ≤ w_kX g Z (m_ch g r) := y2
  rw [if_pos hO16] at y1 y2
  have zn : 1 ≤ Z nd := (G.1 nd f1).2.1
  have zc : Z ((gK g n).getD 0 0) ≤ 56 := (G.1 _ cl1).2.2.1
  have key := w_ev G (l := ((n, e, 7, []), (0, 0, 0, 0), (0, m_cv g n, dt, 0), 0, t, 0, none, 0) :: ((nd, ev, ph, rm), (gt, x0, x1, x2), (la, bv, bx, ty), dt, t, h, tg, pl) :: r) (s := m_cs g n e dt (s_be s (sBe s + 1))) cl1 he ⟨F7, Fs, W⟩ (Or.inr ⟨_, List.mem_cons_self .., cl2, rfl⟩) (by
    unfold w_iq
    rw [ef, ec]
    exact w_ar1 (L := r.length) i1 i2 y1 y2 zn ey) (by rw [ef]; exact hfr) (by
    intro q r' e
    injection e with e1 e2
    rw [← e1]
    exact ⟨by show (7 : Nat) ≠ 4; decide, by show (7 : Nat) ≠ 8; decide⟩) w1
  rw [w2, w3] at key
  refine w_ok_le key ?_ (Nat.le_succ _)
  have e3 : u_l g Z (((n, e, 7, []), (0, 0, 0, 0), (0, m_cv g n, dt, 0), 0, t, 0, none, 0) :: ((nd, ev, ph, rm), (gt, x0, x1, x2), (la, bv, bx, ty), dt, t, h, tg, pl) :: r) = 4 + (u_f g Z ((nd, ev, ph, rm), (gt, x0, x1, x2), (la, bv, bx, ty), dt, sc, sr, tg, pl) + u_l g Z r) := by
    rw [← eu, ← e7]; rfl
  rw [e3]
  exact w_ar2 hbe zc (u_f4 _)
theorem w_srch (G : g_w g V Z pa T) {f : Fr} {r : List Fr} {s : St} (F : w_f g V Z pa 1 f r) (W : w_l g V Z pa 1 r) (hp : fr_ph f = 4 ∨ fr_ph f = 8) (hf : m_fc (f :: r) ≤ gD g) (hs : w_s g s) : w_ok g V Z pa (1 + 1000 * (gF g - sBe s) + u_f g Z f + u_l g Z r) (sPr s + 1) (m_srch g f r s) := by
  have hfr : m_fc r ≤ gD g := Nat.le_trans (Nat.le_add_right _ _) hf
  have u4 := u_f4 (g := g) (Z := Z) f
  have F' := F
  obtain ⟨f1, f2, f3, f4, f5, f6, f7, f8, f9, f10⟩ := F'
  obtain ⟨s1, s2, s3, s4, s5⟩ := f5 hp
  have N := G.1 _ f1
  unfold m_srch
  split
  · split
    · exact w_ok_le (w_dlv W hfr hs) (by omega) (Nat.le_succ _)
    · refine ⟨⟨hf, hs.1, hs.2, w_nf (by decide), fun z => (by cases z), fun z => (by cases z), fun z => (by cases z), fun _ => ⟨Or.inl ⟨F, W⟩, fun h z => (by cases z), fun _ => ⟨s5.1, m_pla_k N.2.2.2.1⟩⟩⟩, ?_, Nat.le_succ _⟩
      show 1 + 1000 * (gF g - sBe s) + (u_f g Z f + u_l g Z r) ≤ _
      omega
  · rename_i h n e t hm
    obtain ⟨c1, c2⟩ := m_sf_some hm
    have c3 : ((h, n, e) :: t) <:+ m_ch g r := c1.trans s1
    obtain ⟨q, r', q1, q2, q3, q4, q5, q6, q7⟩ := w_link W c3
    split
    · rename_i hO
      refine ⟨⟨hf, hs.1, hs.2, w_nf (by decide), fun z => (by cases z), fun z => (by cases z), fun z => (by cases z), fun _ => ⟨Or.inl ⟨F, W⟩, fun k z => ?_, fun z => (by cases z)⟩⟩, ?_, Nat.le_succ _⟩
      · cases z
        exact ⟨q, r', q1.trans (List.suffix_cons _ _), q2, q5, by rw [q3]; omega⟩
      · show 1 + 1000 * (gF g - sBe s) + (u_f g Z f + u_l g Z r) ≤ _
        omega
    · rename_i hO
      have hO16 : gO g n = 16 := by omega
      obtain ⟨⟨nd, ev, ph, rm⟩, ⟨gt, x0, x1, x2⟩, ⟨la, bv, bx, ty⟩, dt, sc, sr, tg, pl⟩ := f
      have fcf : m_fc (((nd, ev, ph, rm), (gt, x0, x1, x2), (la, bv, bx, ty), dt, t, h, tg, pl) :: r) = m_fc r := w_fc_ne (by
        have hp : ph = 4 ∨ ph = 8 := hp
        show ph ≠ 6
        omega)
      show w_ok g V Z pa _ _ (if gF g ≤ sBe s then (6, 0, none, 0, 0, ((nd, ev, ph, rm), (gt, x0, x1, x2), (la, bv, bx, ty), dt, t, h, tg, pl) :: r, s)
      else m_ev g ((gK g n).getD 0 0) e (((n, e, 7, []), (0, 0, 0, 0), (0, m_cv g n, dt, 0), 0, t, 0, none, 0) :: ((nd, ev, ph, rm), (gt, x0, x1, x2), (la, bv, bx, ty), dt, t, h, tg, pl) :: r) (m_cs g n e dt (s_be s (sBe s + 1))))
      split
      · exact w_done (by decide) (Or.inr (Or.inr ⟨rfl, 1, w_srFs (h := h) hp F W c3 q1 q2 q5 q7, W⟩)) (by rw [fcf]; exact hfr) hs (Nat.le_succ _)
      · rename_i hbe
        exact w_srH G F W hp hfr hs c3 q1 q2 q3 q4 q5 q7 hO16 hbe
theorem w_tg_r {tgt : Option Nat} {f : Fr} {r : List Fr} (h : w_tg g tgt (f :: r)) (hn : tgt ≠ some r.length) : w_tg g tgt r := by
  intro k hk
  obtain ⟨q, r', a1, a2, a3⟩ := h k hk
  rcases List.suffix_cons_iff.mp a1 with z | z
  · injection z with z1 z2
    rw [z2] at a2
    exact absurd (by rw [hk, ← a2]) hn
  · exact ⟨q, r', z, a2, a3⟩
theorem w_tg_t {f : Fr} {r : List Fr} (h : w_tg g (some r.length) (f :: r)) : fr_ph f = 1 ∧ (gO g (fr_nd f) = 11 ∨ gO g (fr_nd f) = 13 ∨ gO g (fr_nd f) = 17 ∨ gO g (fr_nd f) = 18) := by
  obtain ⟨q, r', a1, a2, a3⟩ := h _ rfl
  rcases List.suffix_cons_iff.mp a1 with z | z
  · injection z with z1 z2
    rw [z1] at a3
    exact a3
  · have := z.length_le
    have : r'.length + 1 ≤ r.length := this
    omega
theorem w_exit (G : g_w g V Z pa T) {f : Fr} {r : List Fr} {s : St} {v : Int32} {tgt : Option Nat} {t : Nat} {p : Int32} (FW : w_l g V Z pa 1 (f :: r) ∨ w_l g V Z pa 0 (f :: r) ∧ (gO g (fr_nd f) = 12 ∨ gO g (fr_nd f) = 14 ∨ gO g (fr_nd f) = 19)) (ht : w_tg g tgt (f :: r)) (hq : w_tp tgt t p) (hf : m_fc (f :: r) ≤ gD g) (hs : w_s g s) : w_ok g V Z pa (1000 * (gF g - sBe s) + u_f g Z f + u_l g Z r) (sPr s + 1) (m_exit g v tgt t p f r s) := by
  have hfr : m_fc r ≤ gD g := Nat.le_trans (Nat.le_add_right _ _) hf
  have u4 := u_f4 (g := g) (Z := Z) f
  have W : w_l g V Z pa 1 r := by
    rcases FW with z | z
    · exact z.2
    · exact z.1.2
  obtain ⟨⟨nd, ev, ph, rm⟩, ⟨gt, x0, x1, x2⟩, ⟨la, bv, bx, ty⟩, dt, sc, sr, tg, pl⟩ := f
  show w_ok g V Z pa _ _ (if tgt = some r.length then
      (if gO g nd = 17 ∨ gO g nd = 18 then m_ev g ((gK g nd).getD 0 0) ev (((nd, ev, 5, []), (0, x0, x1, x2), (la, m_cv g nd, v, ty), dt, sc, sr, tg, pl) :: r) (m_cs g nd ev v s)
      else m_dlv r v s)
    else if ph = 0 ∧ gO g nd = 15 then (0, 0, none, 0, 0, ((nd, ev, 3, rm), (1, x0, x1, x2), (la, bv, bx, t), v, sc, sr, tgt, p) :: r, s)
    else (3, v, tgt, t, p, r, s))
  split
  · rename_i ha
    subst ha
    obtain ⟨t1, t2⟩ := w_tg_t ht
    have t1 : ph = 1 := t1
    subst t1
    have F : w_f g V Z pa 1 ((nd, ev, 1, rm), (gt, x0, x1, x2), (la, bv, bx, ty), dt, sc, sr, tg, pl) r := by
      rcases FW with z | ⟨_, z⟩
      · exact z.1
      · have t2 : gO g nd = 11 ∨ gO g nd = 13 ∨ gO g nd = 17 ∨ gO g nd = 18 := t2
        have z : gO g nd = 12 ∨ gO g nd = 14 ∨ gO g nd = 19 := z
        omega
    obtain ⟨f1, f2, f3, f4, f5, f6, f7, f8, f9, f10⟩ := F
    have f1 : V nd := f1
    have f2 : ev ≤ 5 := f2
    split
    · rename_i hO
      obtain ⟨cl1, cl2, cl3⟩ := w_cl G f1 (by omega) (by omega)
      obtain ⟨w1, w2, w3⟩ := w_cs (g := g) (n := nd) (e := ev) (v := v) hs
      obtain ⟨i1, i2⟩ := f9 (by show (1 : Nat) ≠ 7; decide)
      have i1 : 2 * m_yh r + 3 * Z nd + 1 + w_kY g Z (m_ch g r) + 170 * (5 - m_fc r) ≤ 1040 := i1
      have i2 : 2 * r.length + 4 * Z nd + w_kX g Z (m_ch g r) + 224 * (5 - m_fc r) ≤ 1400 := i2
      have F5 : w_f g V Z pa 1 ((nd, ev, 5, []), (0, x0, x1, x2), (la, m_cv g nd, v, ty), dt, sc, sr, tg, pl) r := by
        refine ⟨f1, f2, Or.inr (Or.inr (Or.inr (Or.inr (Or.inr (Or.inr (Or.inl ⟨rfl, hO, rfl, rfl⟩)))))), ?_, fun z => ?_, fun z => (by cases z), fun _ => f7 (by show (1 : Nat) ≠ 7; decide), f8, fun _ => f9 (by show (1 : Nat) ≠ 7; decide), fun z => (by cases z)⟩
        · rcases w_cv G f1 (by omega) (by omega) with z | z
          · exact Or.inl z
          · exact Or.inr ⟨z.1, z.2, Or.inr (Or.inl rfl)⟩
        · rcases z with z | z <;> cases z
      have ef : m_fc (((nd, ev, 5, []), (0, x0, x1, x2), (la, m_cv g nd, v, ty), dt, sc, sr, tg, pl) :: r) = m_fc r := w_fc_ne (by show (5 : Nat) ≠ 6; decide)
      have ec : m_ch g (((nd, ev, 5, []), (0, x0, x1, x2), (la, m_cv g nd, v, ty), dt, sc, sr, tg, pl) :: r) = m_ch g r := rfl
      have ey : m_yh (((nd, ev, 5, []), (0, x0, x1, x2), (la, m_cv g nd, v, ty), dt, sc, sr, tg, pl) :: r) = m_yh r + 1 := rfl
      refine w_ok_le (w_ev G cl1 f2 ⟨F5, W⟩ (Or.inr ⟨_, List.mem_cons_self .., cl2, rfl⟩) ?_ (by rw [ef]; exact hfr) ?_ w1) ?_ ?_
      · unfold w_iq
        rw [ef, ec, ey]
        refine ⟨by omega, ?_⟩
        show 2 * (r.length + 1) + 4 * Z ((gK g nd).getD 0 0) + w_kX g Z (m_ch g r) + 224 * (5 - m_fc r) ≤ 1400
        omega
      · intro q r' e
        injection e with e1 e2
        rw [← e1]
        exact ⟨by show (5 : Nat) ≠ 4; decide, by show (5 : Nat) ≠ 8; decide⟩
      · rw [w2]
        have e5 : u_f g Z ((nd, ev, 5, []), (0, x0, x1, x2), (la, m_cv g nd, v, ty), dt, sc, sr, tg, pl) = 4 := by
          rw [u_fT, if_neg (by omega), if_neg (by omega)]; rfl
        have e1 : 4 + 16 * Z ((gK g nd).getD 0 0) ≤ u_f g Z ((nd, ev, 1, rm), (gt, x0, x1, x2), (la, bv, bx, ty), dt, sc, sr, tg, pl) := by
          rw [u_fT, if_pos ⟨rfl, hO⟩]
          omega
        show 1000 * (gF g - sBe s) + (u_f g Z ((nd, ev, 5, []), (0, x0, x1, x2), (la, m_cv g nd, v, ty), dt, sc, sr, tg, pl) + u_l g Z r) + 16 * Z ((gK g nd).getD 0 0) ≤ _
        rw [e5]
        omega
      · rw [w3]
        exact Nat.le_succ _
    · exact w_ok_le (w_dlv W hfr hs) (by omega) (Nat.le_succ _)
  · rename_i ha
    have htr := w_tg_r ht ha
    split
    · rename_i hc
      obtain ⟨c1, c2⟩ := hc
      subst c1
      have F : w_f g V Z pa 1 ((nd, ev, 0, rm), (gt, x0, x1, x2), (la, bv, bx, ty), dt, sc, sr, tg, pl) r := by
        rcases FW with z | ⟨_, z⟩
        · exact z.1
        · have z : gO g nd = 12 ∨ gO g nd = 14 ∨ gO g nd = 19 := z
          omega
      obtain ⟨f1, f2, f3, f4, f5, f6, f7, f8, f9, f10⟩ := F
      have hb : bv = 0 := by
        rcases f4 with z | ⟨_, _, z⟩
        · exact z
        · rcases z with ⟨z, _⟩ | z | z <;> cases z
      have f3 : (gO g nd ≤ 26 ∧ gO g nd ≠ 7 ∧ gO g nd ≠ 11 ∧ ¬ (16 ≤ gO g nd ∧ gO g nd ≤ 18) ∧ rm = (gK g nd).drop (gt + 1) ∧ gt + 1 ≤ (gK g nd).length ∧ (gO g nd = 6 ∨ gO g nd = 9 ∨ gO g nd = 10 ∨ gO g nd = 13 ∨ gO g nd = 15 → gt = 0)) := by
        rcases f3 with h | h | h | h | h | h | h | h | h | h
        · exact h.2
        all_goals omega
      obtain ⟨k1, k2, k3, k4, k5, k6, k7⟩ := f3
      have hg := k7 (by omega)
      subst hg
      refine ⟨⟨hf, hs.1, hs.2, w_nf (by decide), fun _ => ⟨_, r, rfl, Or.inr (Or.inr rfl), ⟨⟨f1, f2, Or.inr (Or.inr (Or.inr (Or.inr (Or.inl ⟨Or.inr rfl, c2, Nat.le_refl _, k5, k6⟩)))), Or.inl hb, fun z => ?_, fun z => (by cases z), fun _ => f7 (by show (0 : Nat) ≠ 7; decide), f8, fun _ => f9 (by show (0 : Nat) ≠ 7; decide), fun _ => ⟨htr, hq⟩⟩, W⟩, fun z => ?_, Or.inl rfl⟩, fun z => (by cases z), fun z => (by cases z), fun z => (by cases z)⟩, ?_, Nat.le_succ _⟩
      · rcases z with z | z <;> cases z
      · have z : gO g nd = 10 := z
        omega
      · have e3 : u_f g Z ((nd, ev, 3, rm), (1, x0, x1, x2), (la, bv, bx, t), v, sc, sr, tgt, p) = 4 + 16 * fo_sum Z rm := by
          rw [u_fT, if_neg (by omega), if_neg (by omega)]; rfl
        have e0 : u_f g Z ((nd, ev, 0, rm), (0, x0, x1, x2), (la, bv, bx, ty), dt, sc, sr, tg, pl) = 4 + 16 * fo_sum Z rm + 3 := by
          rw [u_fT, if_neg (by omega), if_pos ⟨rfl, c2⟩]
        show 3 + 1000 * (gF g - sBe s) + (u_f g Z ((nd, ev, 3, rm), (1, x0, x1, x2), (la, bv, bx, t), v, sc, sr, tgt, p) + u_l g Z r) ≤ _
        rw [e3, e0]
        omega
    · refine ⟨⟨hfr, hs.1, hs.2, w_nf (by decide), fun z => (by cases z), fun z => (by cases z), fun z => (by cases z), fun _ => ⟨Or.inl W, htr, hq⟩⟩, ?_, Nat.le_succ _⟩
      show 1 + 1000 * (gF g - sBe s) + u_l g Z r ≤ _
      omega
theorem w_step (G : g_w g V Z pa T) {m : MS} (W : w_m g V Z pa m) (h : m.1 < 4) : w_ok g V Z pa (u_m g Z m - 1) (u_p m + 1) (m_step g m) ∧ 1 ≤ u_m g Z m := by
  obtain ⟨t, v, tgt, ty, p, l, s⟩ := m
  have h : t < 4 := h
  obtain ⟨a1, a2, a3, _, b0, b1, b2, b3⟩ := W
  have hs : w_s g s := ⟨a2, a3⟩
  have ht : t = 0 ∨ t = 1 ∨ t = 2 ∨ t = 3 := by omega
  rcases ht with rfl | rfl | rfl | rfl
  · obtain ⟨f, r, rfl, c1, c2, c3⟩ := b0 rfl
    have eu : u_m g Z (0, v, tgt, ty, p, f :: r, s) = 3 + 1000 * (gF g - sBe s) + (u_f g Z f + u_l g Z r) := rfl
    refine ⟨w_ok_le (w_pro G c2.1 c2.2 (by omega) (by omega) a1 hs) (by omega) (Nat.le_refl _), by omega⟩
  · obtain ⟨c1, c2⟩ := b1 rfl
    cases l with
    | nil => exact absurd rfl c1
    | cons f r =>
      have eu : u_m g Z (1, v, tgt, ty, p, f :: r, s) = 3 + 1000 * (gF g - sBe s) + (u_f g Z f + u_l g Z r) := rfl
      have u4 := u_f4 (g := g) (Z := Z) f
      refine ⟨?_, by omega⟩
      have hfr : m_fc r ≤ gD g := Nat.le_trans (Nat.le_add_right _ _) a1
      show w_ok g V Z pa _ _ (if fr_ph f = 4 ∨ fr_ph f = 8 then (2, 0, none, 0, 0, f :: r, s)
        else if fr_ph f = 0 ∧ gO g (fr_nd f) = 10 ∧ v = 0 then m_dlv r 0 s
        else m_pro g (m_take g f v) r s)
      split
      · rename_i hp
        refine ⟨⟨a1, a2, a3, w_nf (by decide), fun z => (by cases z), fun z => (by cases z), fun _ => ⟨f, r, rfl, hp, c2⟩, fun z => (by cases z)⟩, ?_, Nat.le_succ _⟩
        show 2 + 1000 * (gF g - sBe s) + (u_f g Z f + u_l g Z r) ≤ _
        omega
      · rename_i hp
        split
        · exact w_ok_le (w_dlv c2.2 hfr hs) (by omega) (Nat.le_succ _)
        · obtain ⟨d1, d2, d3, d4, d5⟩ := w_take (v := v) G c2.1 (fun z => hp (Or.inl z)) (fun z => hp (Or.inr z))
          exact w_ok_le (w_pro G d1 c2.2 d2 d3 (by rw [d4]; exact a1) hs) (by omega) (Nat.le_refl _)
  · obtain ⟨f, r, rfl, c1, c2⟩ := b2 rfl
    have eu : u_m g Z (2, v, tgt, ty, p, f :: r, s) = 2 + 1000 * (gF g - sBe s) + (u_f g Z f + u_l g Z r) := rfl
    exact ⟨w_ok_le (w_srch G c2.1 c2.2 c1 a1 hs) (by omega) (Nat.le_refl _), by omega⟩
  · obtain ⟨c1, c2, c3⟩ := b3 rfl
    cases l with
    | nil =>
      refine ⟨w_done (by decide) (Or.inr (Or.inl ⟨rfl, rfl⟩)) a1 hs (Nat.le_succ _), ?_⟩
      show 1 ≤ 1 + 1000 * (gF g - sBe s) + 0
      omega
    | cons f r =>
      have eu : u_m g Z (3, v, tgt, ty, p, f :: r, s) = 1 + 1000 * (gF g - sBe s) + (u_f g Z f + u_l g Z r) := rfl
      refine ⟨w_ok_le (w_exit G ?_ c2 c3 a1 hs) (by omega) (Nat.le_refl _), by omega⟩
      rcases c1 with z | ⟨f', r', e, z1, z2⟩
      · exact Or.inl z
      · injection e with e1 e2
        subst e1 e2
        exact Or.inr ⟨z1, z2⟩
def m_it (g : mG) : Nat → MS → MS
  | 0, m => m
  | k + 1, m => m_it g k (m_step g m)
theorem m_it_done {m : MS} (h : 4 ≤ m.1) : ∀ k, m_it g k m = m
  | 0 => rfl
  | k + 1 => by
    have e : m_step g m = m := by
      obtain ⟨t, v, tgt, ty, p, l, s⟩ := m
      obtain ⟨j, rfl⟩ : ∃ j, t = j + 4 := ⟨t - 4, by have : 4 ≤ t := h; omega⟩
      rfl
    show m_it g k (m_step g m) = m
    rw [e]; exact m_it_done h k
end
