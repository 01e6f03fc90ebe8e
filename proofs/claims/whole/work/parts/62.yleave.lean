/-! the reference's side: an exit's step, every step, the run -/
section
variable {g : mG} {V : Nat → Prop} {Z : Nat → Nat} {pa : Nat → Option Nat} {T : Nat} {h_count h_open h_types : Int32} {c_sort c_op c_na c_nb c_up c_val c_size c_params c_parent : Nat → Int32} {s : St} {oc ret xt xv xy xp ha exi v : Int32} {be : Nat} {gv gh : Nat → Int32} {c_node c_got c_handle c_pTarget c_pPlace c_act c_mode c_bVar c_pType c_v0 c_v1 c_v2 c_last c_bVal c_pVal : Nat → Int32} {l r : List Fr} {f : Fr} {P : SY → Prop} {post : Int32 → SY → Prop} {N i p q : Nat}
theorem y_tg_r {tgt : Option Nat} {f : Fr} {r : List Fr} (h : w_tg g tgt r) : y_tg tgt (f :: r) = y_tg tgt r := by
  cases tgt with
  | none => rfl
  | some k =>
    obtain ⟨q, r', a1, a2, _⟩ := h k rfl
    show nI (y_at (f :: r) k) = nI (y_at r k)
    rw [← a2, y_at_len a1, y_at_len (a1.trans (List.suffix_cons _ _))]
theorem y_tg_ne {tgt : Option Nat} {r : List Fr} (h : w_tg g tgt r) (j : Nat) (hj : m_yh r ≤ j) (h5 : j < 1000) : ¬ nI j = y_tg tgt r := by
  cases tgt with
  | none =>
    intro z
    have : (0 : Int32) ≤ -1 := by
      show (0 : Int32) ≤ y_tg none r
      rw [← z]; exact nI_pos' (by omega)
    exact absurd this (by decide)
  | some k =>
    obtain ⟨q, r', a1, a2, a3, _⟩ := h k rfl
    have e : y_tg (some k) r = nI (m_yh r') := by
      show nI (y_at r k) = _
      rw [← a2, y_at_len a1]
    rw [e]
    have := m_yh_suf a1
    have h1 : m_yh (q :: r') = m_yh r' + 1 := m_yh_1 (by omega) (by omega)
    exact xx_ne (by omega) (by omega) (by omega)
theorem y_tg_s {tgt : Option Nat} {r : List Fr} (h : w_tg g tgt r) (h5 : m_yh r ≤ 520) : vp_nar .short ((y_tg tgt r).toInt16.toInt32) = y_tg tgt r := by
  cases tgt with
  | none => exact y_m1s
  | some k =>
    obtain ⟨q, r', a1, a2, a3, _⟩ := h k rfl
    have e : y_tg (some k) r = nI (m_yh r') := by
      show nI (y_at r k) = _
      rw [← a2, y_at_len a1]
    rw [e]
    have := m_yh_suf a1
    have h1 : m_yh (q :: r') = m_yh r' + 1 := m_yh_1 (by omega) (by omega)
    exact fb_short (by omega)
theorem w_op4 {f : Fr} {w : Nat} (h : w_lk g w f) (hp : fr_ph f = 4) : gO g (fr_nd f) ≤ 26 ∧ gO g (fr_nd f) ≠ 15 := by
  obtain ⟨⟨nd, ev, ph, rm⟩, ⟨gt, x0, x1, x2⟩, ⟨la, bv, bx, ty⟩, dt, sc, sr, tg, pl⟩ := f
  have hp : ph = 4 := hp
  show gO g nd ≤ 26 ∧ gO g nd ≠ 15
  rcases h with h | h | h | h | h | h | h | h | h | h <;> omega
theorem w_lk_01 {f : Fr} (h : w_lk g 0 f) (hp : fr_ph f = 4) : w_lk g 1 f := by
  obtain ⟨⟨nd, ev, ph, rm⟩, ⟨gt, x0, x1, x2⟩, ⟨la, bv, bx, ty⟩, dt, sc, sr, tg, pl⟩ := f
  have hp : ph = 4 := hp
  rcases h with h | h | h | h | h | h | h | h | h | h
  · omega
  · omega
  · omega
  · omega
  · omega
  · exact Or.inr (Or.inr (Or.inr (Or.inr (Or.inr (Or.inl h)))))
  all_goals omega
theorem y_leaveR (G : g_w g V Z pa T) (Yt : yT g V h_count h_open h_types c_sort c_op c_na c_nb c_up c_val c_size c_params c_parent) {nd ev ph gt bv ty sr : Nat} {rm : List Nat} {x0 x1 x2 la bx dt pl : Int32} {sc : List (Nat × Nat × Nat)} {tg : Option Nat} {tgt : Option Nat} {t : Nat} {pp : Int32} (FW : w_l g V Z pa 1 (((nd, ev, ph, rm), (gt, x0, x1, x2), (la, bv, bx, ty), dt, sc, sr, tg, pl) :: r) ∨ w_l g V Z pa 0 (((nd, ev, ph, rm), (gt, x0, x1, x2), (la, bv, bx, ty), dt, sc, sr, tg, pl) :: r) ∧ (gO g nd = 12 ∨ gO g nd = 14 ∨ gO g nd = 19)) (ht : w_tg g tgt (((nd, ev, ph, rm), (gt, x0, x1, x2), (la, bv, bx, ty), dt, sc, sr, tg, pl) :: r)) (hq : w_tp tgt t pp) (hs : w_s g s) (hg : yGl gv gh (sGl s)) (Y : yL g c_node c_got c_handle c_pTarget c_pPlace c_act c_mode c_bVar c_pType c_v0 c_v1 c_v2 c_last c_bVal c_pVal (((nd, ev, ph, rm), (gt, x0, x1, x2), (la, bv, bx, ty), dt, sc, sr, tg, pl) :: r)) (hh : tgt = none → xy = nI t ∧ xp = pp) (hi : i + 2 < 1000000) (H : ∀ p q, p + q = 2 → ∀ u', py_R g h_count h_open h_types c_sort c_op c_na c_nb c_up c_val c_size c_params c_parent (m_exit g v tgt t pp ((nd, ev, ph, rm), (gt, x0, x1, x2), (la, bv, bx, ty), dt, sc, sr, tg, pl) r s) u' → yR post (N + p) (i + q) u') : yR post (N + 2) i (yU g h_count h_open h_types c_sort c_op c_na c_nb c_up c_val c_size c_params c_parent (y_z0 oc) 1 (sBe s) s (m_yh (((nd, ev, ph, rm), (gt, x0, x1, x2), (la, bv, bx, ty), dt, sc, sr, tg, pl) :: r)) ret (y_tg tgt (((nd, ev, ph, rm), (gt, x0, x1, x2), (la, bv, bx, ty), dt, sc, sr, tg, pl) :: r)) v xy xp 0 1 gv gh c_node c_got c_handle c_pTarget c_pPlace c_act c_mode c_bVar c_pType c_v0 c_v1 c_v2 c_last c_bVal c_pVal) := by
  have W : w_l g V Z pa 1 r := by
    rcases FW with z | z
    · exact z.2
    · exact z.1.2
  have f1 : V nd := by
    rcases FW with z | z
    · exact z.1.1
    · exact z.1.1.1
  have f2 : ev ≤ 5 := by
    rcases FW with z | z
    · exact z.1.2.1
    · exact z.1.1.2.1
  have f4 : w_bd g ((nd, ev, ph, rm), (gt, x0, x1, x2), (la, bv, bx, ty), dt, sc, sr, tg, pl) := by
    rcases FW with z | z
    · exact z.1.2.2.2.1
    · exact z.1.1.2.2.2.1
  have f9 : ph ≠ 7 → w_iq g Z nd r := by
    rcases FW with z | z
    · exact z.1.2.2.2.2.2.2.2.2.1
    · exact z.1.1.2.2.2.2.2.2.2.2.1
  have n4 := (G.1 nd f1).2.2.2.1
  have n2 := (G.1 nd f1).2.1
  have e0 : m_exit g v tgt t pp ((nd, ev, ph, rm), (gt, x0, x1, x2), (la, bv, bx, ty), dt, sc, sr, tg, pl) r s = if tgt = some r.length then
      (if gO g nd = 17 ∨ gO g nd = 18 then m_ev g ((gK g nd).getD 0 0) ev (((nd, ev, 5, []), (0, x0, x1, x2), (la, m_cv g nd, v, ty), dt, sc, sr, tg, pl) :: r) (m_cs g nd ev v s)
      else m_dlv r v s)
    else if ph = 0 ∧ gO g nd = 15 then (0, 0, none, 0, 0, ((nd, ev, 3, rm), (1, x0, x1, x2), (la, bv, bx, t), v, sc, sr, tgt, pp) :: r, s)
    else (3, v, tgt, t, pp, r, s) := rfl
  have hm : m_yh (((nd, ev, ph, rm), (gt, x0, x1, x2), (la, bv, bx, ty), dt, sc, sr, tg, pl) :: r) = m_yh r + (if ph = 7 then 0 else if ph = 4 then 2 else 1) := rfl
  have Yr := Y.2
  have Y1 := Y.1
  have REST : tgt ≠ some r.length → ¬ (ph = 0 ∧ gO g nd = 15) → ∀ p q, p + q = 2 → yR post (N + p) (i + q) (yU g h_count h_open h_types c_sort c_op c_na c_nb c_up c_val c_size c_params c_parent (y_z0 oc) 1 (sBe s) s (m_yh r) ret (y_tg tgt (((nd, ev, ph, rm), (gt, x0, x1, x2), (la, bv, bx, ty), dt, sc, sr, tg, pl) :: r)) v xy xp 0 1 gv gh c_node c_got c_handle c_pTarget c_pPlace c_act c_mode c_bVar c_pType c_v0 c_v1 c_v2 c_last c_bVal c_pVal) := by
    intro z1 z2 p q hpq
    rw [e0, if_neg z1, if_neg z2] at H
    have htr := w_tg_r ht z1
    refine H p q hpq _ ⟨oc, sBe s, m_yh r, ret, y_tg tgt (((nd, ev, ph, rm), (gt, x0, x1, x2), (la, bv, bx, ty), dt, sc, sr, tg, pl) :: r), v, xy, xp, 0, 1, gv, gh, c_node, c_got, c_handle, c_pTarget, c_pPlace, c_act, c_mode, c_bVar, c_pType, c_v0, c_v1, c_v2, c_last, c_bVal, c_pVal, hg, fun _ => ⟨rfl, Yr⟩, fun z => (by cases z), fun z => (by cases z), fun z => (by cases z), fun _ => ⟨rfl, rfl, rfl, y_tg_r htr, hh⟩, fun _ => rfl, rfl⟩
  have NT : ph ≠ 1 → tgt ≠ some r.length := by
    intro z1 z2
    subst z2
    exact z1 (w_tg_t ht).1
  by_cases p7 : ph = 7
  · rw [if_pos p7] at hm
    have := REST (NT (by omega)) (by omega) 2 0 rfl
    rw [hm, Nat.add_zero]
    exact this
  · have h5 : m_yh r ≤ 518 := y_len (f9 p7) n2
    rw [if_neg p7] at hm
    by_cases p4 : ph = 4
    · have z1 := NT (by omega)
      have htr := w_tg_r ht z1
      have op := w_op4 (w := 1) (f := ((nd, ev, ph, rm), (gt, x0, x1, x2), (la, bv, bx, ty), dt, sc, sr, tg, pl)) (by
        rcases FW with z | z
        · exact z.1.2.2.1
        · have := z.1.1.2.2.1
          exact w_lk_01 this p4) p4
      have op : gO g nd ≤ 26 ∧ gO g nd ≠ 15 := op
      have hop := ((Yt.1 nd f1).2.2.1 op.1).2
      unfold yF at Y1
      rw [if_neg (show ¬ fr_ph ((nd, ev, ph, rm), (gt, x0, x1, x2), (la, bv, bx, ty), dt, sc, sr, tg, pl) = 7 from p7), if_pos (show fr_ph ((nd, ev, ph, rm), (gt, x0, x1, x2), (la, bv, bx, ty), dt, sc, sr, tg, pl) = 4 from p4)] at Y1
      rw [if_pos p4] at hm
      rw [hm]
      have et : y_tg tgt (((nd, ev, ph, rm), (gt, x0, x1, x2), (la, bv, bx, ty), dt, sc, sr, tg, pl) :: r) = y_tg tgt r := y_tg_r htr
      refine y_go (by omega) (show ¬ (1 : Int32) = 0 by decide) ?_
      refine br_f (by decide) ?_
      refine nm_r (nI_pred (m_yh r + 1)) ?_
      refine br_t (nI_pos' (by omega)) (br_f (by rw [et]; exact y_tg_ne htr _ (by omega) (by omega)) ⟨vp_in_nI (by omega) (by decide), ?_⟩)
      rw [nI_clamp (by omega), Y1.2.2.2.1]
      refine br_t (by decide) (nm_r (nI_pred (m_yh r + 1)) ?_)
      show yR post (N + 1) (i + 1) (yU g h_count h_open h_types c_sort c_op c_na c_nb c_up c_val c_size c_params c_parent (y_z0 oc) 1 (sBe s) s (m_yh r + 1) ret (y_tg tgt (((nd, ev, ph, rm), (gt, x0, x1, x2), (la, bv, bx, ty), dt, sc, sr, tg, pl) :: r)) v xy xp 0 1 gv gh c_node c_got c_handle c_pTarget c_pPlace c_act c_mode c_bVar c_pType c_v0 c_v1 c_v2 c_last c_bVal c_pVal)
      refine y_go (by omega) (show ¬ (1 : Int32) = 0 by decide) ?_
      refine br_f (by decide) ?_
      refine nm_r (nI_pred (m_yh r)) ?_
      refine br_t (nI_pos' (by omega)) (br_f (by rw [et]; exact y_tg_ne htr _ (by omega) (by omega)) ⟨vp_in_nI (by omega) (by decide), ?_⟩)
      rw [nI_clamp (by omega), show c_node (m_yh r) = nI nd from Y1.1]
      refine br_f (y_nneg n4) ⟨vp_in_nI (by omega) (by decide), vp_in_nI n4 (by decide), ?_⟩
      rw [nI_clamp (n := nd) (by omega), hop]
      refine br_f (xx_ne (b := 15) op.2 (by omega) (by decide)) (nm_r (nI_pred (m_yh r)) ?_)
      exact REST z1 (by omega) 0 2 rfl
    · rw [if_neg p4] at hm
      rw [hm]
      by_cases p8 : ph = 8
      · have z1 := NT (by omega)
        have htr := w_tg_r ht z1
        have et : y_tg tgt (((nd, ev, ph, rm), (gt, x0, x1, x2), (la, bv, bx, ty), dt, sc, sr, tg, pl) :: r) = y_tg tgt r := y_tg_r htr
        unfold yF at Y1
        rw [if_neg (show ¬ fr_ph ((nd, ev, ph, rm), (gt, x0, x1, x2), (la, bv, bx, ty), dt, sc, sr, tg, pl) = 7 from p7), if_neg (show ¬ fr_ph ((nd, ev, ph, rm), (gt, x0, x1, x2), (la, bv, bx, ty), dt, sc, sr, tg, pl) = 4 from p4), if_pos (show fr_ph ((nd, ev, ph, rm), (gt, x0, x1, x2), (la, bv, bx, ty), dt, sc, sr, tg, pl) = 8 from p8)] at Y1
        refine y_go (by omega) (show ¬ (1 : Int32) = 0 by decide) ?_
        refine br_f (by decide) ?_
        refine nm_r (nI_pred (m_yh r)) ?_
        refine br_t (nI_pos' (by omega)) (br_f (by rw [et]; exact y_tg_ne htr _ (by omega) (by omega)) ⟨vp_in_nI (by omega) (by decide), ?_⟩)
        rw [nI_clamp (by omega), Y1.1]
        refine br_t (by decide) (nm_r (nI_pred (m_yh r)) ?_)
        exact REST z1 (by omega) 1 1 rfl
      · have YA := (yF_A (f := ((nd, ev, ph, rm), (gt, x0, x1, x2), (la, bv, bx, ty), dt, sc, sr, tg, pl)) p7 p4 p8).mp Y1
        have hO : gO g nd ≤ 26 := by
          rcases FW with z | z
          · exact w_lsO z.1.2.2.1 p8
          · exact w_lsO z.1.1.2.2.1 p8
        have hop := ((Yt.1 nd f1).2.2.1 hO).2
        have hk : m_yh r < 520 := by omega
        have b1 := YA.1
        have b2 := YA.2.1
        have b3 := YA.2.2.1
        have b5 := YA.2.2.2.2.1
        clear YA Y1
        refine y_go (by omega) (show ¬ (1 : Int32) = 0 by decide) ?_
        refine br_f (by decide) ?_
        refine nm_r (nI_pred (m_yh r)) ?_
        refine br_t (nI_pos' (by omega)) ?_
        by_cases ha : tgt = some r.length
        · rw [e0, if_pos ha] at H
          subst ha
          obtain ⟨t1, t2⟩ := w_tg_t ht
          have t1 : ph = 1 := t1
          have t2 : gO g nd = 11 ∨ gO g nd = 13 ∨ gO g nd = 17 ∨ gO g nd = 18 := t2
          subst t1
          have et : y_tg (some r.length) (((nd, ev, 1, rm), (gt, x0, x1, x2), (la, bv, bx, ty), dt, sc, sr, tg, pl) :: r) = nI (m_yh r) := by
            show nI (y_at (((nd, ev, 1, rm), (gt, x0, x1, x2), (la, bv, bx, ty), dt, sc, sr, tg, pl) :: r) r.length) = _
            rw [y_at_len (List.suffix_refl _)]
          refine br_t et.symm ⟨vp_in_nI hk (by decide), ?_⟩
          rw [nI_clamp (n := m_yh r) (by omega), b1]
          refine xx_n n4 ?_
          rw [hop]
          have SET : ∀ {u}, yQ g V h_count h_open h_types c_sort c_op c_na c_nb c_up c_val c_size c_params c_parent (if gO g nd = 17 ∨ gO g nd = 18 then m_ev g ((gK g nd).getD 0 0) ev (((nd, ev, 5, []), (0, x0, x1, x2), (la, m_cv g nd, v, ty), dt, sc, sr, tg, pl) :: r) (m_cs g nd ev v s) else m_dlv r v s) u → yR post (N + 1) (i + 1) u := fun hu => y_settle G Yt hi hu H
          by_cases o11 : gO g nd = 11
          · refine br_t (by rw [o11]; rfl) ?_
            refine y_done (m_yh r) ?_
            refine SET ?_
            rw [if_neg (by omega)]
            exact y_dlv hg Yr
          refine br_f (xx_ne (b := 11) o11 (by omega) (by decide)) ?_
          by_cases o13 : gO g nd = 13
          · refine br_t (by rw [o13]; rfl) ?_
            refine y_done (m_yh r) ?_
            refine SET ?_
            rw [if_neg (by omega)]
            exact y_dlv hg Yr
          refine br_f (xx_ne (b := 13) o13 (by omega) (by decide)) ?_
          have o17 : gO g nd = 17 ∨ gO g nd = 18 := by
            rcases t2 with z | z | z | z
            · exact absurd z o11
            · exact absurd z o13
            · exact Or.inl z
            · exact Or.inr z
          have o17a : 16 ≤ gO g nd := by rcases o17 with z | z <;> rw [z] <;> decide
          have o17b : gO g nd ≤ 18 := by rcases o17 with z | z <;> rw [z] <;> decide
          rw [if_pos o17] at SET
          have hb : bv = 0 := by
            rcases f4 with z | ⟨_, _, z⟩
            · exact z
            · rcases z with ⟨_, z⟩ | z | z
              · have z : gO g nd = 9 := z
                omega
              · cases z
              · cases z
          subst hb
          have F1 : w_f g V Z pa 1 ((nd, ev, 1, rm), (gt, x0, x1, x2), (la, 0, bx, ty), dt, sc, sr, tg, pl) r := by
            rcases FW with z | ⟨_, z⟩
            · exact z.1
            · omega
          obtain ⟨cl1, cl2, cl3⟩ := w_cl G f1 o17a o17b
          have hnb := (Yt.1 nd f1).2.2.2.2 o17a o17b
          have hw12 := (G.1 nd f1).2.2.2.2.2.2.2.2.2.1 o17a o17b
          have hle1 : 1 ≤ (gK g nd).length := fo_lst (G.1 nd f1) (by omega) (by unfold fo_least; rw [if_neg (by omega), if_neg (by omega), if_neg (by omega)])
          have gl1 := m_cs_gl (g := g) (n := nd) (e := ev) (v := v) (s := s)
          have F5 : w_f g V Z pa 1 ((nd, ev, 5, []), (0, x0, x1, x2), (la, m_cv g nd, v, ty), dt, sc, sr, tg, pl) r := by
            obtain ⟨g1, g2, g3, g4, g5, g6, g7, g8, g9, g10⟩ := F1
            refine ⟨g1, g2, Or.inr (Or.inr (Or.inr (Or.inr (Or.inr (Or.inr (Or.inl ⟨rfl, o17, rfl, rfl⟩)))))), ?_, fun z => ?_, fun z => (by cases z), fun _ => g7 (by show (1 : Nat) ≠ 7; decide), g8, fun _ => g9 (by show (1 : Nat) ≠ 7; decide), fun z => (by cases z)⟩
            · rcases w_cv G f1 o17a o17b with z | z
              · exact Or.inl z
              · exact Or.inr ⟨z.1, z.2, Or.inr (Or.inl rfl)⟩
            · rcases z with z | z <;> cases z
          have I5 : w_iq g Z ((gK g nd).getD 0 0) (((nd, ev, 5, []), (0, x0, x1, x2), (la, m_cv g nd, v, ty), dt, sc, sr, tg, pl) :: r) := by
            obtain ⟨i1, i2⟩ := f9 (by decide)
            refine ⟨?_, ?_⟩
            · show 2 * (m_yh r + 1) + 3 * Z ((gK g nd).getD 0 0) + 1 + w_kY g Z (m_ch g r) + 170 * (5 - m_fc r) ≤ 1040
              omega
            · show 2 * (r.length + 1) + 4 * Z ((gK g nd).getD 0 0) + w_kX g Z (m_ch g r) + 224 * (5 - m_fc r) ≤ 1400
              omega
          have EVAL : ∀ (bv' bl' : Nat → Int32) (s' : St), s' = m_cs g nd ev v s → yE (m_yh r) bv' c_bVar → yE (m_yh r) bl' c_bVal → bv' (m_yh r) = y_bv (m_cv g nd) → (m_cv g nd ≠ 0 → bl' (m_yh r) = v) → wpY_evaluate (fun u => yR post (N + 1) (i + 1) u) (yU g h_count h_open h_types c_sort c_op c_na c_nb c_up c_val c_size c_params c_parent (y_z0 oc) 1 (sBe s) s' (m_yh r + 1) ret (y_tg (some r.length) (((nd, ev, 1, rm), (gt, x0, x1, x2), (la, 0, bx, ty), dt, sc, sr, tg, pl) :: r)) v xy xp 0 0 gv gh c_node (upd c_got (m_yh r) 0) c_handle c_pTarget c_pPlace c_act (upd c_mode (m_yh r) 1) (bv') c_pType c_v0 c_v1 c_v2 c_last (bl') c_pVal) (nI ((gK g nd).getD 0 0)) (nI ev) := by
            intro bv' bl' s' hs' e1 e2 e3 e4
            subst hs'
            have := y_ev (P := fun u => yR post (N + 1) (i + 1) u) (oc := oc) (ret := ret) (xt := y_tg (some r.length) (((nd, ev, 1, rm), (gt, x0, x1, x2), (la, 0, bx, ty), dt, sc, sr, tg, pl) :: r)) (xv := v) (xy := xy) (xp := xp) (gv := gv) (gh := gh) (c_node := c_node) (c_got := upd c_got (m_yh r) 0) (c_handle := c_handle) (c_pTarget := c_pTarget) (c_pPlace := c_pPlace) (c_act := c_act) (c_mode := upd c_mode (m_yh r) 1) (c_bVar := bv') (c_pType := c_pType) (c_v0 := c_v0) (c_v1 := c_v1) (c_v2 := c_v2) (c_last := c_last) (c_bVal := bl') (c_pVal := c_pVal) (l := ((nd, ev, 5, []), (0, x0, x1, x2), (la, m_cv g nd, v, ty), dt, sc, sr, tg, pl) :: r) (s := m_cs g nd ev v s) G Yt cl1 f2 ⟨F5, W⟩ (fun q r' e => by injection e with e _; rw [← e]; exact ⟨by show (5 : Nat) ≠ 4; decide, by show (5 : Nat) ≠ 8; decide⟩) I5 (by rw [gl1.2]; exact hs.1) (by rw [gl1.1]; exact hg) ⟨?_, ?_⟩ (fun u' hu => SET hu)
            · rw [gl1.2] at this
              exact this
            · refine (yF_A (f := ((nd, ev, 5, []), (0, x0, x1, x2), (la, m_cv g nd, v, ty), dt, sc, sr, tg, pl)) (by show (5 : Nat) ≠ 7; decide) (by show (5 : Nat) ≠ 4; decide) (by show (5 : Nat) ≠ 8; decide)).mpr ?_
              refine ⟨b1, b2, pk_us, pk_us, fun _ => ⟨e3, e4⟩, fun z => ?_, fun z => (by cases z), fun z => (by cases z), fun z => (by cases z), fun z => (by cases z), fun z => (by cases z)⟩
              rcases z with z | z | ⟨z, _⟩ <;> cases z
            · exact yL_keep W Yr yE_r (yE_u yE_r (Nat.le_refl _)) yE_r yE_r yE_r yE_r (yE_u yE_r (Nat.le_refl _)) e1 yE_r yE_r yE_r yE_r yE_r e2 yE_r
          refine ⟨vp_in_nI hk (by decide), nm_r (congrArg (upd c_mode (m_yh r)) y_1b) ?_⟩
          refine ⟨vp_in_nI hk (by decide), nm_r (congrArg (upd c_got (m_yh r)) y_0s) ?_⟩
          refine ⟨vp_in_nI hk (by decide), ?_⟩
          rw [nI_clamp (n := m_yh r) (by omega), b1]
          refine ⟨vp_in_nI n4 (by decide), ?_⟩
          rw [nI_clamp (n := nd) (by omega), hnb]
          refine nm_e ?_
          by_cases bb8 : gB g nd < 8
          · refine br_f (nI_ge (b := 8) bb8 (by decide)) ⟨vp_in_nI hk (by decide), ?_⟩
            rw [b2]
            have ei : 8 * nI ev + nI (gB g nd) = nI (8 * ev + gB g nd) := by
              rw [show (8 : Int32) = nI 8 from rfl, pk_mul, nI_add]
            rw [ei]
            refine ⟨vp_in_nI (by omega) (by decide), ?_⟩
            rw [nI_clamp (n := 8 * ev + gB g nd) (by omega)]
            refine nm_e ⟨vp_in_nI hk (by decide), ?_⟩
            try rw [nI_clamp (n := m_yh r) (by omega)]
            rw [b1]
            refine Yt.2.2.1 nd f1 0 (by decide) _ _ _ _ _ _ _ _ _ _ _ _ _ _ _ _ _ _ _ _ _ _ _ _ _ _ _ _ _ _ _ _ _ _ _ _ _ _ _ ?_
            refine ⟨vp_in_nI hk (by decide), ?_⟩
            rw [fo_nx_g (by omega), b2]
            have ecv : m_cv g nd = 0 := if_pos bb8
            have ecs : m_cs g nd ev v s = s_lo s (upd (sLo s) (8 * ev + gB g nd) v) := if_pos bb8
            exact EVAL c_bVar c_bVal (s_lo s (upd (sLo s) (8 * ev + gB g nd) v)) ecs.symm yE_r yE_r (by rw [ecv]; exact (b5 trivial).1) (fun z => absurd ecv z)
          · refine br_t (nI_le (a := 8) (by omega) (by omega)) ?_
            refine ⟨vp_in_nI hk (by decide), nm_r (congrArg (upd c_bVar (m_yh r)) (fb_byte (n := gB g nd) (by omega))) ?_⟩
            refine ⟨vp_in_nI hk (by decide), nm_e ?_⟩
            refine ⟨vp_in_nI hk (by decide), ?_⟩
            try rw [nI_clamp (n := m_yh r) (by omega)]
            rw [b1]
            refine Yt.2.2.1 nd f1 0 (by decide) _ _ _ _ _ _ _ _ _ _ _ _ _ _ _ _ _ _ _ _ _ _ _ _ _ _ _ _ _ _ _ _ _ _ _ _ _ _ _ ?_
            refine ⟨vp_in_nI hk (by decide), ?_⟩
            rw [fo_nx_g (by omega), b2]
            have ecv : m_cv g nd = gB g nd := if_neg bb8
            have ecs : m_cs g nd ev v s = s := if_neg bb8
            refine EVAL (upd c_bVar (m_yh r) (nI (gB g nd))) (upd c_bVal (m_yh r) v) s ecs.symm (yE_u yE_r (Nat.le_refl _)) (yE_u yE_r (Nat.le_refl _)) ?_ (fun _ => pk_us)
            rw [pk_us, ecv]
            unfold y_bv
            rw [if_neg (by omega)]
        · have htr := w_tg_r ht ha
          have et : y_tg tgt (((nd, ev, ph, rm), (gt, x0, x1, x2), (la, bv, bx, ty), dt, sc, sr, tg, pl) :: r) = y_tg tgt r := y_tg_r htr
          refine br_f (by rw [et]; exact y_tg_ne htr _ (by omega) (by omega)) ⟨vp_in_nI hk (by decide), ?_⟩
          rw [nI_clamp (n := m_yh r) (by omega), b1]
          refine br_f (y_nneg n4) ⟨vp_in_nI hk (by decide), vp_in_nI n4 (by decide), ?_⟩
          rw [nI_clamp (n := nd) (by omega), hop]
          refine fb_if (nI_eq (b := 15) (by omega) (by decide)) (fun o => ⟨vp_in_nI hk (by decide), ?_⟩) (fun o => nm_r (nI_pred (m_yh r)) (REST ha (fun z => o z.2) 1 1 rfl))
          rw [b3]
          have w15 : (ph = 0 ∧ gt = 0) ∨ (ph ≠ 0 ∧ 1 ≤ gt ∧ gt ≤ 57) := by
            have F1 : w_f g V Z pa 1 ((nd, ev, ph, rm), (gt, x0, x1, x2), (la, bv, bx, ty), dt, sc, sr, tg, pl) r := by
              rcases FW with z | ⟨_, z⟩
              · exact z.1
              · omega
            have hKl := (w_ks G (n := nd) f1).2.1
            obtain ⟨_, _, f3, _⟩ := F1
            rcases f3 with h | h | h | h | h | h | h | h | h | h
            · exact Or.inl ⟨h.1, h.2.2.2.2.2.2.2 (by omega)⟩
            · omega
            · omega
            · omega
            · exact Or.inr ⟨by omega, h.2.2.1, by have := h.2.2.2.2; omega⟩
            all_goals omega
          refine fb_if (nI_eq (b := 0) (by omega) (by decide)) (fun z => ?_) (fun z => nm_r (nI_pred (m_yh r)) (REST ha (fun y => by omega) 1 1 rfl))
          have p0 : ph = 0 := by omega
          subst p0 z
          rw [e0, if_neg ha, if_pos ⟨rfl, o⟩] at H
          have hb : bv = 0 := by
            rcases f4 with z | ⟨_, _, z⟩
            · exact z
            · rcases z with ⟨z, _⟩ | z | z <;> cases z
          subst hb
          refine ⟨vp_in_nI hk (by decide), nm_r (congrArg (upd c_mode (m_yh r)) y_1b) ?_⟩
          refine ⟨vp_in_nI hk (by decide), nm_r (congrArg (upd c_got (m_yh r)) y_1s) ?_⟩
          refine ⟨vp_in_nI hk (by decide), nm_e ?_⟩
          refine ⟨vp_in_nI hk (by decide), nm_e ?_⟩
          refine ⟨vp_in_nI hk (by decide), nm_e ?_⟩
          refine ⟨vp_in_nI hk (by decide), nm_e ?_⟩
          refine H 1 1 rfl _ ⟨oc, sBe s, m_yh r + 1, ret, y_tg tgt (((nd, ev, 0, rm), (0, x0, x1, x2), (la, 0, bx, ty), dt, sc, sr, tg, pl) :: r), v, xy, xp, 0, 0, gv, gh, c_node, upd c_got (m_yh r) 1, c_handle, upd c_pTarget (m_yh r) (vp_nar .short ((y_tg tgt (((nd, ev, 0, rm), (0, x0, x1, x2), (la, 0, bx, ty), dt, sc, sr, tg, pl) :: r)).toInt16.toInt32)), upd c_pPlace (m_yh r) (vp_nar .short (xp.toInt16.toInt32)), c_act, upd c_mode (m_yh r) 1, c_bVar, upd c_pType (m_yh r) (vp_nar .byte (xy.toInt8.toInt32)), c_v0, c_v1, c_v2, c_last, c_bVal, upd c_pVal (m_yh r) v, hg, fun _ => ⟨rfl, ?_, ?_⟩, fun _ => ⟨rfl, rfl, ?_⟩, fun z => (by cases z), fun z => (by cases z), fun z => (by cases z), fun z => absurd z (by show ¬ 1 ≤ 0; decide), rfl⟩
          · refine (yF_A (f := ((nd, ev, 3, rm), (1, x0, x1, x2), (la, 0, bx, t), v, sc, sr, tgt, pp)) (by show (3 : Nat) ≠ 7; decide) (by show (3 : Nat) ≠ 4; decide) (by show (3 : Nat) ≠ 8; decide)).mpr ?_
            refine ⟨b1, b2, pk_us, pk_us, b5, fun z => ?_, fun z => (by cases z), fun z => (by cases z), fun z => (by cases z), fun z => (by cases z), fun _ => ⟨pk_us, ?_, fun z => ⟨?_, ?_⟩⟩⟩
            · rcases z with z | z | ⟨z, _⟩ <;> cases z
            · rw [pk_us, et, y_tg_s htr (by omega)]
            · have := (hq z).1
              rw [pk_us, (hh z).1]
              exact fb_byte (by omega)
            · obtain ⟨k, k1, k2⟩ := (hq z).2
              rw [pk_us, (hh z).2, k2]
              exact fb_short (by omega)
          · exact yL_keep W Yr yE_r (yE_u yE_r (Nat.le_refl _)) yE_r (yE_u yE_r (Nat.le_refl _)) (yE_u yE_r (Nat.le_refl _)) yE_r (yE_u yE_r (Nat.le_refl _)) yE_r (yE_u yE_r (Nat.le_refl _)) yE_r yE_r yE_r yE_r yE_r (yE_u yE_r (Nat.le_refl _))
          · show sBe s + (if gO g nd = 10 then 1 else 0) = sBe s
            rw [if_neg (by omega)]; rfl
end
