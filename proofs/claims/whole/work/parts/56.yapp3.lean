/-! the reference's side: applying a list, all kinds -/
section
variable {g : mG} {V : Nat → Prop} {Z : Nat → Nat} {pa : Nat → Option Nat} {T : Nat} {h_count h_open h_types : Int32} {c_sort c_op c_na c_nb c_up c_val c_size c_params c_parent : Nat → Int32} {s : St} {oc ret xt xv xy xp ha exi v : Int32} {be : Nat} {gv gh : Nat → Int32} {c_node c_got c_handle c_pTarget c_pPlace c_act c_mode c_bVar c_pType c_v0 c_v1 c_v2 c_last c_bVal c_pVal : Nat → Int32} {l r : List Fr} {f : Fr} {P : SY → Prop} {post : Int32 → SY → Prop} {N i p q : Nat}
theorem y_le15 {x : Int32} : x ≤ 15 ↔ ¬ 16 ≤ x := by
  rw [Int32.not_le]
  constructor
  · intro h
    exact Int32.lt_of_le_of_lt h (by decide)
  · intro h
    rw [Int32.le_iff_toInt_le]
    rw [Int32.lt_iff_toInt_lt] at h
    have a : (16 : Int32).toInt = 16 := by decide
    have b : (15 : Int32).toInt = 15 := by decide
    omega
theorem y_nar {h_depth h_fuel h_count h_open h_types h_sp h_ret h_xTarget h_xVal h_xType h_xPlace h_have h_exiting h_running h_outcome h_value h_error h_datum h_place h_beats h_printed : Int32} {c_sort c_op c_na c_nb c_up c_val c_size c_params c_parent c_global c_cells c_locals c_has c_node c_got c_handle c_pTarget c_pPlace c_act c_mode c_bVar c_pType c_v0 c_v1 c_v2 c_last c_bVal c_pVal c_out : Nat → Int32} {Q : Int32 → Prop} {a : Nat} {x : Int32} (ha : a < 4) (h : Q (m_kb a x)) : wpY_narrow Q (h_depth, h_fuel, h_count, h_open, h_types, h_sp, h_ret, h_xTarget, h_xVal, h_xType, h_xPlace, h_have, h_exiting, h_running, h_outcome, h_value, h_error, h_datum, h_place, h_beats, h_printed, c_sort, c_op, c_na, c_nb, c_up, c_val, c_size, c_params, c_parent, c_global, c_cells, c_locals, c_has, c_node, c_got, c_handle, c_pTarget, c_pPlace, c_act, c_mode, c_bVar, c_pType, c_v0, c_v1, c_v2, c_last, c_bVal, c_pVal, c_out) (nI a) x := by
  have hc : a = 0 ∨ a = 1 ∨ a = 2 ∨ a = 3 := by omega
  rcases hc with rfl | rfl | rfl | rfl
  · exact br_t rfl h
  · exact br_f (by decide) (br_t rfl h)
  · exact br_f (by decide) (br_f (by decide) (br_t rfl h))
  · refine br_f (by decide) (br_f (by decide) (br_f (by decide) ?_))
    rw [pk_char]
    have e : m_kb 3 x = nI (x.toBitVec.toNat % 65536) := pk_and x 16 (by decide)
    rw [← e]
    exact h
theorem w_call (G : g_w g V Z pa T) {nd ev gt ty sr : Nat} {x0 x1 x2 la bx dt pl : Int32} {sc : List (Nat × Nat × Nat)} {tg : Option Nat} (F : w_f g V Z pa 0 ((nd, ev, 0, []), (gt, x0, x1, x2), (la, 0, bx, ty), dt, sc, sr, tg, pl) r) (W : w_l g V Z pa 1 r) (hO : gO g nd = 23) (hA : gA g nd < 6) (hC : gC g (gA g nd) ≠ 0) (hd : ¬ gD g ≤ m_fc r) : w_f g V Z pa 1 ((nd, ev, 6, []), (gt, x0, x1, x2), (la, 0, bx, ty), dt, sc, sr, tg, pl) r ∧ w_iq g Z (56 * gA g nd) (((nd, ev, 6, []), (gt, x0, x1, x2), (la, 0, bx, ty), dt, sc, sr, tg, pl) :: r) ∧ V (56 * gA g nd) := by
  obtain ⟨f1, f2, f3, f4, f5, f6, f7, f8, f9, f10⟩ := F
  obtain ⟨v1, v2⟩ := G.2.1 _ hA hC
  have r3 : Z (56 * gA g nd) ≤ 56 := (G.1 _ v1).2.2.1
  have n2 : 1 ≤ Z nd := (G.1 nd f1).2.1
  have hD : gD g ≤ 5 := G.2.2.2.2.2.1
  obtain ⟨i1, i2⟩ := f9 (fun z => by cases z)
  have i1 : 2 * m_yh r + 3 * Z nd + 1 + w_kY g Z (m_ch g r) + 170 * (5 - m_fc r) ≤ 1040 := i1
  have i2 : 2 * r.length + 4 * Z nd + w_kX g Z (m_ch g r) + 224 * (5 - m_fc r) ≤ 1400 := i2
  have hgt : gt ≤ 56 := by
    have hK := (w_ks G (n := nd) f1).2.1
    rcases f3 with h | h | h | h | h | h | h | h | h | h
    · have := h.2.2.2.2.2.2.1
      omega
    all_goals omega
  refine ⟨⟨f1, f2, Or.inr (Or.inr (Or.inr (Or.inr (Or.inr (Or.inr (Or.inr (Or.inl ⟨rfl, hO, rfl, fun _ => hgt⟩))))))), Or.inl rfl, fun z => (by rcases z with z | z <;> cases z), fun z => (by cases z), fun _ => f7 (fun z => by cases z), f8, fun _ => f9 (fun z => by cases z), fun z => (by cases z)⟩, ⟨?_, ?_⟩, v1⟩
  · show 2 * (m_yh r + 1) + 3 * Z (56 * gA g nd) + 1 + w_kY g Z (m_ch g r) + 170 * (5 - (m_fc r + 1)) ≤ 1040
    omega
  · show 2 * (r.length + 1) + 4 * Z (56 * gA g nd) + w_kX g Z (m_ch g r) + 224 * (5 - (m_fc r + 1)) ≤ 1400
    omega
theorem y_app (G : g_w g V Z pa T) (Yt : yT g V h_count h_open h_types c_sort c_op c_na c_nb c_up c_val c_size c_params c_parent) {nd ev gt bv ty sr : Nat} {x0 x1 x2 la bx dt pl : Int32} {sc : List (Nat × Nat × Nat)} {tg : Option Nat} (F : w_f g V Z pa 0 ((nd, ev, 0, []), (gt, x0, x1, x2), (la, bv, bx, ty), dt, sc, sr, tg, pl) r) (W : w_l g V Z pa 1 r) (hfr : m_fc r ≤ gD g) (hs : w_s g s) (hpr : sPr s < 1000000) (hg : yGl gv gh (sGl s)) (YA : yA g c_node c_got c_handle c_pTarget c_pPlace c_act c_mode c_bVar c_pType c_v0 c_v1 c_v2 c_last c_bVal c_pVal True (m_yh r) ((nd, ev, 0, []), (gt, x0, x1, x2), (la, bv, bx, ty), dt, sc, sr, tg, pl) r) (Yr : yL g c_node c_got c_handle c_pTarget c_pPlace c_act c_mode c_bVar c_pType c_v0 c_v1 c_v2 c_last c_bVal c_pVal r) (h : ∀ u', yQ g V h_count h_open h_types c_sort c_op c_na c_nb c_up c_val c_size c_params c_parent (m_app g ((nd, ev, 0, []), (gt, x0, x1, x2), (la, bv, bx, ty), dt, sc, sr, tg, pl) r s) u' → P u') : wpY_apply P (yU g h_count h_open h_types c_sort c_op c_na c_nb c_up c_val c_size c_params c_parent (y_z0 oc) 1 (sBe s) s (m_yh r + 1) ret xt xv xy xp 0 0 gv gh c_node c_got c_handle c_pTarget c_pPlace c_act c_mode c_bVar c_pType c_v0 c_v1 c_v2 c_last c_bVal c_pVal) (nI (m_yh r)) (nI nd) (nI (gO g nd)) := by
  obtain ⟨hb, hgt, hO, o6, o7, o9, o10, o11, o13, o15, o16, hle, hl, hg56⟩ := w_done0 G F
  subst hb
  have f1 : V nd := F.1
  have f2 : ev ≤ 5 := F.2.1
  have N0 := G.1 nd f1
  have n2 := N0.2.1
  have n4 := N0.2.2.2.1
  have har := N0.2.2.2.2.2.2.2.2.1 hO
  have h5 : m_yh r ≤ 518 := y_len (F.2.2.2.2.2.2.2.2.1 (by show (0 : Nat) ≠ 7; decide)) n2
  have hk : m_yh r < 520 := by omega
  have tma := (Yt.1 nd f1).2.2.2.1
  have hop := ((Yt.1 nd f1).2.2.1 hO).2
  have d5 : 1 ≤ fo_least (gO g nd) → c_v0 (m_yh r) = x0 := fun z => YA.2.2.2.2.2.1 (Or.inl rfl) (by omega)
  have d6 : 2 ≤ fo_least (gO g nd) → c_v1 (m_yh r) = x1 := fun z => YA.2.2.2.2.2.2.1 rfl (by omega)
  have e1 : 0 < gt → c_v0 (m_yh r) = x0 := fun z => YA.2.2.2.2.2.1 (Or.inl rfl) z
  have e2 : 1 < gt → c_v1 (m_yh r) = x1 := fun z => YA.2.2.2.2.2.2.1 rfl z
  have e3 : 2 < gt → c_v2 (m_yh r) = x2 := fun z => YA.2.2.2.2.2.2.2.1 rfl z
  have e2' : 1 < gt → c_v1 (m_yh r) = x1 := e2
  have e3' : 2 < gt → c_v2 (m_yh r) = x2 := e3
  clear e2 e3
  have k0 : c_node (m_yh r) = nI nd := YA.1
  have k1 : c_act (m_yh r) = nI ev := YA.2.1
  have km : c_mode (m_yh r) = 0 := YA.2.2.2.1
  have kb : c_bVar (m_yh r) = -1 := (YA.2.2.2.2.1 trivial).1
  have YFr : yL g c_node c_got c_handle c_pTarget c_pPlace c_act c_mode c_bVar c_pType c_v0 c_v1 c_v2 c_last c_bVal c_pVal (((nd, ev, 0, []), (gt, x0, x1, x2), (la, 0, bx, ty), dt, sc, sr, tg, pl) :: r) := ⟨YA, Yr⟩
  have ht0 := F.2.2.2.2.2.2.1 (by show (0 : Nat) ≠ 7; decide)
  have AP : ∀ {k}, gO g nd = k → m_app g ((nd, ev, 0, []), (gt, x0, x1, x2), (la, 0, bx, ty), dt, sc, sr, tg, pl) r s = m_apk g ((nd, ev, 0, []), (gt, x0, x1, x2), (la, 0, bx, ty), dt, sc, sr, tg, pl) r s k := fun e => congrArg (m_apk g ((nd, ev, 0, []), (gt, x0, x1, x2), (la, 0, bx, ty), dt, sc, sr, tg, pl) r s) e
  have FIN : ∀ v, m_app g ((nd, ev, 0, []), (gt, x0, x1, x2), (la, 0, bx, ty), dt, sc, sr, tg, pl) r s = m_dlv r v s → P (yU g h_count h_open h_types c_sort c_op c_na c_nb c_up c_val c_size c_params c_parent (y_z0 oc) 1 (sBe s) s (m_yh r) v xt xv xy xp 1 0 gv gh c_node c_got c_handle c_pTarget c_pPlace c_act c_mode c_bVar c_pType c_v0 c_v1 c_v2 c_last c_bVal c_pVal) := fun v e => h _ (by rw [e]; exact y_dlv hg Yr)
  have RAI : ∀ t d, m_app g ((nd, ev, 0, []), (gt, x0, x1, x2), (la, 0, bx, ty), dt, sc, sr, tg, pl) r s = m_raise g ((nd, ev, 0, []), (gt, x0, x1, x2), (la, 0, bx, ty), dt, sc, sr, tg, pl) r t d s → P (yU g h_count h_open h_types c_sort c_op c_na c_nb c_up c_val c_size c_params c_parent (y_z0 oc) 1 (sBe s) s (m_yh r + 1 + 1) ret xt xv xy xp 0 0 gv gh (upd c_node (m_yh r + 1) (-1)) (upd (upd c_got (m_yh r + 1) 0) (m_yh r + 1) (nI (m_yh r + 1) - 1)) c_handle c_pTarget c_pPlace (upd c_act (m_yh r + 1) 0) (upd (upd c_mode (m_yh r + 1) 0) (m_yh r + 1) (if gO g nd = 20 then 0 else 1)) (upd c_bVar (m_yh r + 1) (-1)) c_pType (upd c_v0 (m_yh r + 1) (nI t)) (upd c_v1 (m_yh r + 1) d) (upd c_v2 (m_yh r + 1) (nI nd)) (upd c_last (m_yh r + 1) 0) c_bVal c_pVal) := by
    intro t d e
    refine h _ ?_
    rw [e]
    refine Or.inl ⟨oc, sBe s, m_yh r + 2, ret, xt, xv, xy, xp, 0, 0, gv, gh, _, _, _, _, _, _, _, _, _, _, _, _, _, _, _, hg, fun _ => ⟨rfl, ⟨?_, ?_, ?_, pk_us, pk_us, pk_us, pk_us, pk_us, ?_⟩, yL_keep W Yr (yE_u yE_r (by omega)) (yE_u (yE_u yE_r (by omega)) (by omega)) yE_r yE_r yE_r (yE_u yE_r (by omega)) (yE_u (yE_u yE_r (by omega)) (by omega)) (yE_u yE_r (by omega)) yE_r (yE_u yE_r (by omega)) (yE_u yE_r (by omega)) (yE_u yE_r (by omega)) (yE_u yE_r (by omega)) yE_r yE_r⟩, fun z => (by cases z), fun z => (by cases z), fun _ => rfl, fun z => (by cases z), fun _ => rfl, rfl⟩
    · rw [pk_un (by omega)]; exact k0
    · rw [pk_un (by omega), pk_un (by omega)]; exact km
    · rw [pk_un (by omega)]; exact kb
    · rw [pk_us, nI_pred]
      show nI (m_yh r) = if r.length = r.length then nI (m_yh r) else _
      rw [if_pos rfl]
  have EXI : ∀ v h', m_app g ((nd, ev, 0, []), (gt, x0, x1, x2), (la, 0, bx, ty), dt, sc, sr, tg, pl) r s = (3, v, some h', 0, 0, ((nd, ev, 0, []), (gt, x0, x1, x2), (la, 0, bx, ty), dt, sc, sr, tg, pl) :: r, s) → P (yU g h_count h_open h_types c_sort c_op c_na c_nb c_up c_val c_size c_params c_parent (y_z0 oc) 1 (sBe s) s (m_yh r + 1) ret (nI (y_at (((nd, ev, 0, []), (gt, x0, x1, x2), (la, 0, bx, ty), dt, sc, sr, tg, pl) :: r) h')) v xy xp 0 1 gv gh c_node c_got c_handle c_pTarget c_pPlace c_act c_mode c_bVar c_pType c_v0 c_v1 c_v2 c_last c_bVal c_pVal) := by
    intro v h' e
    refine h _ ?_
    rw [e]
    exact Or.inl ⟨oc, sBe s, m_yh r + 1, ret, nI (y_at (((nd, ev, 0, []), (gt, x0, x1, x2), (la, 0, bx, ty), dt, sc, sr, tg, pl) :: r) h'), v, xy, xp, 0, 1, gv, gh, c_node, c_got, c_handle, c_pTarget, c_pPlace, c_act, c_mode, c_bVar, c_pType, c_v0, c_v1, c_v2, c_last, c_bVal, c_pVal, hg, fun _ => ⟨rfl, YFr⟩, fun z => (by cases z), fun z => (by cases z), fun z => (by cases z), fun _ => ⟨rfl, rfl, rfl, rfl, fun z => (by cases z)⟩, fun _ => rfl, rfl⟩
  have Wf : w_l g V Z pa 0 (((nd, ev, 0, []), (gt, x0, x1, x2), (la, 0, bx, ty), dt, sc, sr, tg, pl) :: r) := ⟨F, W⟩
  have hyf : m_yh (((nd, ev, 0, []), (gt, x0, x1, x2), (la, 0, bx, ty), dt, sc, sr, tg, pl) :: r) = m_yh r + 1 := rfl
  refine xx_n n4 ?_
  refine xx_n hk ?_
  refine xx_n hk ?_
  rcases fo_ops (gO g nd) (by omega) o6 o7 o9 o10 o11 o13 o15 o16 with o | o | o | o | o | o | o | o | o | o | o | o | o | o | o | o | o
  · rw [o]
    repeat first | refine br_t (by decide) ?_ | refine br_f (by decide) ?_
    rw [d5 (by rw [o]; decide), d6 (by rw [o]; decide)]
    exact y_done (m_yh r) (FIN _ (AP o))
  · rw [o]
    repeat first | refine br_t (by decide) ?_ | refine br_f (by decide) ?_
    rw [d5 (by rw [o]; decide), d6 (by rw [o]; decide)]
    exact y_done (m_yh r) (FIN _ (AP o))
  · rw [o]
    repeat first | refine br_t (by decide) ?_ | refine br_f (by decide) ?_
    rw [d5 (by rw [o]; decide), d6 (by rw [o]; decide)]
    exact y_done (m_yh r) (FIN _ (AP o))
  · rw [o]
    refine br_f (by decide) (br_t (by decide) ?_)
    rw [d5 (by rw [o]; decide), d6 (by rw [o]; decide)]
    refine fb_if Iff.rfl (fun e => ?_) (fun e => ?_)
    · refine y_raise (m_yh r + 1) nd (by omega) (Or.inr rfl) ?_
      have := RAI 3 x0 ((AP o).trans (if_pos e))
      rw [if_neg (by omega)] at this
      exact this
    · repeat first | refine br_t (by decide) ?_ | refine br_f (by decide) ?_
      refine br_f e ⟨e, ?_⟩
      exact y_done (m_yh r) (FIN _ ((AP o).trans (if_neg e)))
  · rw [o]
    repeat first | refine br_t (by decide) ?_ | refine br_f (by decide) ?_
    rw [d5 (by rw [o]; decide), d6 (by rw [o]; decide)]
    refine fb_if Iff.rfl (fun e => ?_) (fun e => ?_)
    · exact y_done (m_yh r) (FIN 0 ((AP o).trans (congrArg (fun z => m_dlv r z s) (if_pos e))))
    · exact y_done (m_yh r) (FIN 1 ((AP o).trans (congrArg (fun z => m_dlv r z s) (if_neg e))))
  · rw [o]
    repeat first | refine br_t (by decide) ?_ | refine br_f (by decide) ?_
    rw [d5 (by rw [o]; decide), d6 (by rw [o]; decide)]
    refine fb_if Iff.rfl (fun e => ?_) (fun e => ?_)
    · exact y_done (m_yh r) (FIN 1 ((AP o).trans (congrArg (fun z => m_dlv r z s) (if_pos e))))
    · exact y_done (m_yh r) (FIN 0 ((AP o).trans (congrArg (fun z => m_dlv r z s) (if_neg e))))
  · rw [o]
    repeat first | refine br_t (by decide) ?_ | refine br_f (by decide) ?_
    rw [d5 (by rw [o]; decide), tma (by unfold fo_ma; omega)]
    refine ⟨vp_in_nI hk (by decide), ?_⟩
    rw [nI_clamp (by omega), k1]
    have hA := har.1 o
    by_cases a8 : gA g nd < 8
    · have eb : ∀ {Q : Int32 → Prop} (n : Nat) (j : Nat), (∀ x, Q x) → j ≤ 520 → j < n → wY_binding_7 Q (nI (gA g nd)) (nI (gD g)) (nI (gF g)) h_count h_open h_types (nI (m_yh r + 1)) ret xt xv xy xp 0 0 1 ((y_z0 oc).1) ((y_z0 oc).2.1) ((y_z0 oc).2.2.1) ((y_z0 oc).2.2.2.1) ((y_z0 oc).2.2.2.2) (nI (sBe s)) (nI (sPr s)) c_sort c_op c_na c_nb c_up c_val c_size c_params c_parent gv (sCe s) (sLo s) gh c_node c_got c_handle c_pTarget c_pPlace c_act c_mode c_bVar c_pType c_v0 c_v1 c_v2 c_last c_bVal c_pVal (sOu s) n (nI j - 1) := by
        intro Q n
        induction n with
        | zero => intro j _ _ z; omega
        | succ n ih =>
          intro j hQ hj hn
          rw [wY_binding_7]
          cases j with
          | zero => exact br_t (by decide) (hQ _)
          | succ j =>
            rw [nI_pred]
            refine br_f (nI_pos (by omega)) ⟨vp_in_nI (by omega) (by decide), br_c (fun _ => hQ _) (fun _ => ?_)⟩
            exact nm_r (fo_m1 j) (ih j hQ (by omega) (by omega))
      unfold wpY_assign
      dsimp only
      refine nm_e ⟨m_yh r + 2, ?_⟩
      refine eb (m_yh r + 2) (m_yh r + 1) (fun x => ?_) (by omega) (by omega)
      refine br_f (nI_ge (b := 8) a8 (by decide)) ?_
      have ei : 8 * nI ev + nI (gA g nd) = nI (8 * ev + gA g nd) := by
        rw [show (8 : Int32) = nI 8 from rfl, pk_mul, nI_add]
      rw [ei]
      refine ⟨vp_in_nI (by omega) (by decide), ?_⟩
      rw [nI_clamp (by omega)]
      refine nm_e ?_
      refine y_done (m_yh r) ?_
      refine h _ ?_
      rw [(AP o).trans (if_pos a8)]
      exact y_dlv (s := s_lo s (upd (sLo s) (8 * ev + gA g nd) x0)) hg Yr
    · have e0 := (AP o).trans (if_neg a8)
      have hbi : y_bi (gA g nd) (((nd, ev, 0, []), (gt, x0, x1, x2), (la, 0, bx, ty), dt, sc, sr, tg, pl) :: r) = y_bi (gA g nd) r := if_neg (by show ¬ 0 = gA g nd; omega)
      unfold wpY_assign
      dsimp only
      refine y_bind (l := ((nd, ev, 0, []), (gt, x0, x1, x2), (la, 0, bx, ty), dt, sc, sr, tg, pl) :: r) (gA g nd) (by omega) hA Wf (fun q r' e => by injection e with e _; rw [← e]; exact ⟨by show (0 : Nat) ≠ 4; decide, by show (0 : Nat) ≠ 8; decide⟩) YFr (by rw [hyf]; omega) ?_
      rw [hbi]
      refine br_t (nI_le (a := 8) (by omega) (by omega)) ?_
      obtain ⟨i1, i2⟩ := y_bif (gl := sGl s) (gA g nd) (by omega) W ht0 Yr
      cases hm : m_set (gA g nd) x0 r with
      | some r' =>
        have hm' : m_set (gA g (fr_nd ((nd, ev, 0, []), (gt, x0, x1, x2), (la, 0, bx, ty), dt, sc, sr, tg, pl))) (fr_x0 ((nd, ev, 0, []), (gt, x0, x1, x2), (la, 0, bx, ty), dt, sc, sr, tg, pl)) r = some r' := hm
        rw [hm'] at e0
        have sh := m_set_sh hm
        cases hbk : y_bi (gA g nd) r with
        | none =>
          have c1 := y_bn (x := x0) hbk
          exact absurd hm (by rw [c1]; simp)
        | some k =>
          obtain ⟨j1, j2⟩ := yL_set hm (by omega) W ht0 Yr hbk
          refine br_f (nI_pos (by omega)) ?_
          refine ⟨vp_in_nI (by omega) (by decide), ?_⟩
          rw [show (y_ox (some k)).toNatClampNeg = k from nI_clamp (by omega)]
          refine nm_e ?_
          refine y_done (m_yh r) ?_
          refine h _ ?_
          rw [e0, (m_sh_fun (g := g) (Z := Z) sh).2.2.1]
          exact y_dlv hg j2
      | none =>
        have hm' : m_set (gA g (fr_nd ((nd, ev, 0, []), (gt, x0, x1, x2), (la, 0, bx, ty), dt, sc, sr, tg, pl))) (fr_x0 ((nd, ev, 0, []), (gt, x0, x1, x2), (la, 0, bx, ty), dt, sc, sr, tg, pl)) r = none := hm
        rw [hm'] at e0
        obtain ⟨a1, a2⟩ := m_set_none (gl := sGl s) hm
        have hbk : y_bi (gA g nd) r = none := y_bnn a2
        rw [hbk]
        refine br_t (by decide) ?_
        refine ⟨vp_in_nI hA (by decide), ?_⟩
        rw [nI_clamp (by omega), show vp_nar .boolean 1 = 1 by decide]
        refine nm_e ⟨vp_in_nI hA (by decide), nm_e ?_⟩
        refine y_done (m_yh r) ?_
        refine h _ ?_
        rw [e0]
        refine y_dlv (s := s_gl s (fun v => if v = gA g nd then some x0 else sGl s v)) (gv := upd gv (gA g nd) x0) (gh := upd gh (gA g nd) 1) ?_ Yr
        intro j hj
        show x_sp _ _ (if 8 + j = gA g nd then some x0 else sGl s (8 + j))
        by_cases e : 8 + j = gA g nd
        · rw [e, pk_us, pk_us, if_pos rfl]
          exact ⟨rfl, rfl⟩
        · rw [pk_un e, pk_un e, if_neg e]
          exact hg j hj
  · rw [o]
    repeat first | refine br_t (by decide) ?_ | refine br_f (by decide) ?_
    rw [d5 (by rw [o]; decide), tma (by unfold fo_ma; omega)]
    refine Yt.2.2.2.1 nd f1 o _ _ _ _ _ _ _ _ _ _ _ _ _ _ _ _ _ _ _ _ _ _ _ _ _ _ _ _ _ _ _ _ _ _ _ _ _ _ _ ?_
    have hRO := (N0.2.2.2.2.2.2.2.2.2.2 o).1
    obtain ⟨h', hh⟩ := w_ret G F W o
    have hh' : m_find (fun q => decide (fr_nd q = gR g nd ∧ fr_ev q = ev)) (((nd, ev, 0, []), (gt, x0, x1, x2), (la, 0, bx, ty), dt, sc, sr, tg, pl) :: r) = some h' := hh
    have hR392 : gR g nd < 392 := by
      obtain ⟨q, r', z1, z2, z3⟩ := m_find_some hh'
      have z4 := (of_decide_eq_true z3).1
      rw [← z4]
      rcases List.suffix_cons_iff.mp z1 with z | z
      · injection z with z _
        rw [z]; exact n4
      · exact (G.1 _ (w_suf W z).1.1).2.2.2.1
    refine nm_e ⟨m_yh r + 2, ?_⟩
    have := y_scan (g := g) (V := V) (Z := Z) (pa := pa) (Lp := fun n x => wY_apply_95 P (nI (m_yh r)) x0 (nI (gR g nd)) (nI (gD g)) (nI (gF g)) h_count h_open h_types (nI (m_yh r + 1)) ret xt xv xy xp 0 0 1 ((y_z0 oc).1) ((y_z0 oc).2.1) ((y_z0 oc).2.2.1) ((y_z0 oc).2.2.2.1) ((y_z0 oc).2.2.2.2) (nI (sBe s)) (nI (sPr s)) c_sort c_op c_na c_nb c_up c_val c_size c_params c_parent gv (sCe s) (sLo s) gh c_node c_got c_handle c_pTarget c_pPlace c_act c_mode c_bVar c_pType c_v0 c_v1 c_v2 c_last c_bVal c_pVal (sOu s) n x) (pr := fun q => decide (fr_nd q = gR g nd ∧ fr_ev q = ev)) (L0 := ((nd, ev, 0, []), (gt, x0, x1, x2), (la, 0, bx, ty), dt, sc, sr, tg, pl) :: r) ?_ ?_ ?_ ?_ ?_ (((nd, ev, 0, []), (gt, x0, x1, x2), (la, 0, bx, ty), dt, sc, sr, tg, pl) :: r) 0 Wf YFr (by rw [hyf]; omega) (List.suffix_refl _) rfl (m_yh r + 2) (by rw [hyf]; omega)
    · exact this
    · intro f' r' w' Wq hp
      have z := w_48l Wq.2.2.1 hp
      refine decide_eq_false (fun y => z ?_)
      rw [y.1]; exact hRO
    · intro n k hk2 hnode hpos hL
      have hk1 := hpos (by rw [hh']; simp)
      show wY_apply_95 _ _ _ _ _ _ _ _ _ _ _ _ _ _ _ _ _ _ _ _ _ _ _ _ _ _ _ _ _ _ _ _ _ _ _ _ _ _ _ _ _ _ _ _ _ _ _ _ _ _ _ _ _ _ _ _
      rw [wY_apply_95]
      refine br_f (nI_nle hk1 (by omega)) ⟨vp_in_nI hk2 (by decide), ?_⟩
      rw [nI_clamp (by omega), hnode]
      refine br_f ?_ (nm_r (fo_m1 k) hL)
      intro z
      have : (0 : Int32) ≤ -1 := by rw [z]; exact nI_pos' (by omega)
      exact absurd this (by decide)
    · intro n f' r' w' Wq hcase hnode hk2 hpf hpos hL
      have hk1 := hpos (by rw [hh']; simp)
      have hn4 := (G.1 _ Wq.1).2.2.2.1
      have hpf := of_decide_eq_false hpf
      rw [wY_apply_95]
      refine br_f (nI_nle hk1 (by omega)) ⟨vp_in_nI hk2 (by decide), ?_⟩
      rw [nI_clamp (by omega), hnode]
      refine fb_if (nI_eq (by omega) (by omega)) (fun z => ?_) (fun z => nm_r (fo_m1 _) hL)
      refine ⟨vp_in_nI hk2 (by decide), vp_in_nI hk (by decide), ?_⟩
      rw [nI_clamp (n := m_yh r) (by omega), k1]
      rcases hcase with ⟨h4, _⟩ | ⟨_, _, _, yA'⟩
      · exact absurd (by rw [z]; exact hRO) (w_48l Wq.2.2.1 (Or.inl h4))
      · have hact : c_act (m_yh r') = nI (fr_ev f') := by
          obtain ⟨⟨nd', ev', ph', rm'⟩, ⟨gt', x0', x1', x2'⟩, ⟨la', bv', bx', ty'⟩, dt', sc', sr', tg', pl'⟩ := f'
          exact yA'.2.1
        have hev := Wq.2.1
        rw [hact]
        refine br_f (xx_ne (fun y => hpf ⟨z, y⟩) (by omega) (by omega)) (nm_r (fo_m1 _) hL)
    · intro n f' r' w' Wq h4 h7 h8 yA' hk2 hpt hfind hsuf
      have hpt := of_decide_eq_true hpt
      have hact : c_act (m_yh r') = nI (fr_ev f') ∧ c_node (m_yh r') = nI (fr_nd f') := by
        obtain ⟨⟨nd', ev', ph', rm'⟩, ⟨gt', x0', x1', x2'⟩, ⟨la', bv', bx', ty'⟩, dt', sc', sr', tg', pl'⟩ := f'
        exact ⟨yA'.2.1, yA'.1⟩
      have fin : P (yU g h_count h_open h_types c_sort c_op c_na c_nb c_up c_val c_size c_params c_parent (y_z0 oc) 1 (sBe s) s (m_yh r + 1) ret (nI (m_yh r')) x0 xy xp 0 1 gv gh c_node c_got c_handle c_pTarget c_pPlace c_act c_mode c_bVar c_pType c_v0 c_v1 c_v2 c_last c_bVal c_pVal) := by
        have e0 := AP o
        have e0 : m_app g ((nd, ev, 0, []), (gt, x0, x1, x2), (la, 0, bx, ty), dt, sc, sr, tg, pl) r s = (3, x0, m_find (fun q => decide (fr_nd q = gR g nd ∧ fr_ev q = ev)) (((nd, ev, 0, []), (gt, x0, x1, x2), (la, 0, bx, ty), dt, sc, sr, tg, pl) :: r), 0, 0, ((nd, ev, 0, []), (gt, x0, x1, x2), (la, 0, bx, ty), dt, sc, sr, tg, pl) :: r, s) := e0
        rw [hfind] at e0
        have := EXI x0 _ e0
        rw [y_at_len hsuf] at this
        exact this
      rw [wY_apply_95]
      refine br_c (fun _ => fin) (fun _ => ⟨vp_in_nI hk2 (by decide), ?_⟩)
      rw [nI_clamp (by omega), hact.2]
      refine br_t (by rw [hpt.1]) ⟨vp_in_nI hk2 (by decide), vp_in_nI hk (by decide), ?_⟩
      rw [nI_clamp (n := m_yh r) (by omega), k1, hact.1]
      exact br_t (by rw [hpt.2]) fin
    · intro z
      rw [hh'] at z; cases z
  · rw [o]
    repeat first | refine br_t (by decide) ?_ | refine br_f (by decide) ?_
    rw [d5 (by rw [o]; decide), d6 (by rw [o]; decide)]
    have e0 := AP o
    have e0 : m_app g ((nd, ev, 0, []), (gt, x0, x1, x2), (la, 0, bx, ty), dt, sc, sr, tg, pl) r s = (match m_find (fun q => decide (fr_ph q = 1 ∧ gO g (fr_nd q) = 13 ∧ fr_x0 q = x0)) (((nd, ev, 0, []), (gt, x0, x1, x2), (la, 0, bx, ty), dt, sc, sr, tg, pl) :: r) with
        | some h => (3, x1, some h, 0, 0, ((nd, ev, 0, []), (gt, x0, x1, x2), (la, 0, bx, ty), dt, sc, sr, tg, pl) :: r, s)
        | none => m_raise g ((nd, ev, 0, []), (gt, x0, x1, x2), (la, 0, bx, ty), dt, sc, sr, tg, pl) r 5 x0 s) := e0
    refine nm_e ⟨m_yh r + 2, ?_⟩
    have := y_scan (g := g) (V := V) (Z := Z) (pa := pa) (Lp := fun n x => wY_apply_159 P (nI nd) x0 x1 (nI (gD g)) (nI (gF g)) h_count h_open h_types (nI (m_yh r + 1)) ret xt xv xy xp 0 0 1 ((y_z0 oc).1) ((y_z0 oc).2.1) ((y_z0 oc).2.2.1) ((y_z0 oc).2.2.2.1) ((y_z0 oc).2.2.2.2) (nI (sBe s)) (nI (sPr s)) c_sort c_op c_na c_nb c_up c_val c_size c_params c_parent gv (sCe s) (sLo s) gh c_node c_got c_handle c_pTarget c_pPlace c_act c_mode c_bVar c_pType c_v0 c_v1 c_v2 c_last c_bVal c_pVal (sOu s) n x) (pr := fun q => decide (fr_ph q = 1 ∧ gO g (fr_nd q) = 13 ∧ fr_x0 q = x0)) (L0 := ((nd, ev, 0, []), (gt, x0, x1, x2), (la, 0, bx, ty), dt, sc, sr, tg, pl) :: r) ?_ ?_ ?_ ?_ ?_ (((nd, ev, 0, []), (gt, x0, x1, x2), (la, 0, bx, ty), dt, sc, sr, tg, pl) :: r) 0 Wf YFr (by rw [hyf]; omega) (List.suffix_refl _) rfl (m_yh r + 2) (by rw [hyf]; omega)
    · exact this
    · intro f' r' w' Wq hp
      refine decide_eq_false (fun y => ?_)
      omega
    · intro n k hk2 hnode hpos hL
      rw [wY_apply_159]
      refine br_f (nI_pos (by omega)) ⟨vp_in_nI hk2 (by decide), ?_⟩
      rw [nI_clamp (by omega), hnode]
      exact br_t (by decide) (nm_r (fo_m1 k) hL)
    · intro n f' r' w' Wq hcase hnode hk2 hpf hpos hL
      have hn4 := (G.1 _ Wq.1).2.2.2.1
      have hO' := w_lsO Wq.2.2.1 (by rcases hcase with z | z; omega; exact z.2.2.1)
      have hop' := ((Yt.1 _ Wq.1).2.2.1 hO').2
      have hpf := of_decide_eq_false hpf
      rw [wY_apply_159]
      refine br_f (nI_pos (by omega)) ⟨vp_in_nI hk2 (by decide), ?_⟩
      rw [nI_clamp (n := m_yh r') (by omega), hnode]
      refine br_f (y_nneg hn4) ⟨vp_in_nI hk2 (by decide), vp_in_nI hn4 (by decide), ?_⟩
      rw [nI_clamp (n := fr_nd f') (by omega), hop']
      refine fb_if (nI_eq (b := 13) (by omega) (by decide)) (fun z => ?_) (fun z => nm_r (fo_m1 _) hL)
      refine ⟨vp_in_nI hk2 (by decide), ?_⟩
      rcases hcase with ⟨h4, _⟩ | ⟨h4, h7, h8, yA'⟩
      · exfalso
        obtain ⟨⟨nd', ev', ph', rm'⟩, ⟨gt', x0', x1', x2'⟩, ⟨la', bv', bx', ty'⟩, dt', sc', sr', tg', pl'⟩ := f'
        have h4 : ph' = 4 := h4
        have z : gO g nd' = 13 := z
        rcases Wq.2.2.1 with h | h | h | h | h | h | h | h | h | h <;> omega
      · obtain ⟨w1, w2⟩ := w_got13 Wq.2.2.1 z h4
        have hKl := (w_ks G Wq.1).2.1
        have hgot : c_got (m_yh r') = nI (fr_gt f') ∧ (fr_ph f' = 1 → 0 < fr_gt f' → c_v0 (m_yh r') = fr_x0 f') := by
          obtain ⟨⟨nd', ev', ph', rm'⟩, ⟨gt', x0', x1', x2'⟩, ⟨la', bv', bx', ty'⟩, dt', sc', sr', tg', pl'⟩ := f'
          exact ⟨yA'.2.2.1, fun a b => yA'.2.2.2.2.2.1 (Or.inr (Or.inr ⟨a, Or.inl z⟩)) b⟩
        rw [hgot.1]
        refine fb_if (nI_leI (b := 0) (by omega) (by decide)) (fun y => nm_r (fo_m1 _) hL) (fun y => ?_)
        refine ⟨vp_in_nI hk2 (by decide), ?_⟩
        have y1 := w1.mp (by omega)
        rw [hgot.2 y1 (by omega)]
        exact br_f (fun x => hpf ⟨y1, z, x⟩) (nm_r (fo_m1 _) hL)
    · intro n f' r' w' Wq h4 h7 h8 yA' hk2 hpt hfind hsuf
      have hn4 := (G.1 _ Wq.1).2.2.2.1
      have hO' := w_lsO Wq.2.2.1 h8
      have hop' := ((Yt.1 _ Wq.1).2.2.1 hO').2
      obtain ⟨t1, t2, t3⟩ := of_decide_eq_true hpt
      obtain ⟨w1, w2⟩ := w_got13 Wq.2.2.1 t2 h4
      have hKl := (w_ks G Wq.1).2.1
      have hgt' := w1.mpr t1
      have hgot : c_node (m_yh r') = nI (fr_nd f') ∧ c_got (m_yh r') = nI (fr_gt f') ∧ c_v0 (m_yh r') = fr_x0 f' := by
        obtain ⟨⟨nd', ev', ph', rm'⟩, ⟨gt', x0', x1', x2'⟩, ⟨la', bv', bx', ty'⟩, dt', sc', sr', tg', pl'⟩ := f'
        exact ⟨yA'.1, yA'.2.2.1, yA'.2.2.2.2.2.1 (Or.inr (Or.inr ⟨t1, Or.inl t2⟩)) hgt'⟩
      rw [wY_apply_159]
      refine br_f (nI_pos (by omega)) ⟨vp_in_nI hk2 (by decide), ?_⟩
      rw [nI_clamp (n := m_yh r') (by omega), hgot.1]
      refine br_f (y_nneg hn4) ⟨vp_in_nI hk2 (by decide), vp_in_nI hn4 (by decide), ?_⟩
      rw [nI_clamp (n := fr_nd f') (by omega), hop', t2]
      refine br_t rfl ⟨vp_in_nI hk2 (by decide), ?_⟩
      rw [hgot.2.1]
      refine br_f (nI_nle hgt' (by omega)) ⟨vp_in_nI hk2 (by decide), ?_⟩
      rw [hgot.2.2]
      refine br_t t3 (br_t (nI_pos' (by omega)) ?_)
      rw [hfind] at e0
      have := EXI x1 _ e0
      rw [y_at_len hsuf] at this
      exact this
    · intro z n
      rw [wY_apply_159]
      refine br_t (by decide) (br_f (by decide) ?_)
      rw [z] at e0
      refine y_raise (m_yh r + 1) nd (by omega) (Or.inr rfl) ?_
      have := RAI 5 x0 e0
      rw [if_neg (by omega)] at this
      exact this
  · rw [o]
    repeat first | refine br_t (by decide) ?_ | refine br_f (by decide) ?_
    rw [d5 (by rw [o]; decide), tma (by unfold fo_ma; omega)]
    have hA := har.2.2.1 (by omega)
    have e0 := AP o
    have e0 : m_app g ((nd, ev, 0, []), (gt, x0, x1, x2), (la, 0, bx, ty), dt, sc, sr, tg, pl) r s = (match m_find (fun q => decide (fr_ph q = 1 ∧ gO g (fr_nd q) = 18 ∧ gA g (fr_nd q) = gA g nd)) (((nd, ev, 0, []), (gt, x0, x1, x2), (la, 0, bx, ty), dt, sc, sr, tg, pl) :: r) with
        | some h => (3, x0, some h, 0, 0, ((nd, ev, 0, []), (gt, x0, x1, x2), (la, 0, bx, ty), dt, sc, sr, tg, pl) :: r, s)
        | none => m_raise g ((nd, ev, 0, []), (gt, x0, x1, x2), (la, 0, bx, ty), dt, sc, sr, tg, pl) r 5 x0 s) := e0
    refine nm_e ⟨m_yh r + 2, ?_⟩
    have := y_scan (g := g) (V := V) (Z := Z) (pa := pa) (Lp := fun n x => wY_apply_261 P (nI nd) (nI (gA g nd)) x0 (nI (gD g)) (nI (gF g)) h_count h_open h_types (nI (m_yh r + 1)) ret xt xv xy xp 0 0 1 ((y_z0 oc).1) ((y_z0 oc).2.1) ((y_z0 oc).2.2.1) ((y_z0 oc).2.2.2.1) ((y_z0 oc).2.2.2.2) (nI (sBe s)) (nI (sPr s)) c_sort c_op c_na c_nb c_up c_val c_size c_params c_parent gv (sCe s) (sLo s) gh c_node c_got c_handle c_pTarget c_pPlace c_act c_mode c_bVar c_pType c_v0 c_v1 c_v2 c_last c_bVal c_pVal (sOu s) n x) (pr := fun q => decide (fr_ph q = 1 ∧ gO g (fr_nd q) = 18 ∧ gA g (fr_nd q) = gA g nd)) (L0 := ((nd, ev, 0, []), (gt, x0, x1, x2), (la, 0, bx, ty), dt, sc, sr, tg, pl) :: r) ?_ ?_ ?_ ?_ ?_ (((nd, ev, 0, []), (gt, x0, x1, x2), (la, 0, bx, ty), dt, sc, sr, tg, pl) :: r) 0 Wf YFr (by rw [hyf]; omega) (List.suffix_refl _) rfl (m_yh r + 2) (by rw [hyf]; omega)
    · exact this
    · intro f' r' w' Wq hp
      refine decide_eq_false (fun y => ?_)
      omega
    · intro n k hk2 hnode hpos hL
      rw [wY_apply_261]
      refine br_f (nI_pos (by omega)) ⟨vp_in_nI hk2 (by decide), ?_⟩
      rw [nI_clamp (by omega), hnode]
      exact br_t (by decide) (nm_r (fo_m1 k) hL)
    · intro n f' r' w' Wq hcase hnode hk2 hpf hpos hL
      have hn4 := (G.1 _ Wq.1).2.2.2.1
      have hO' := w_lsO Wq.2.2.1 (by rcases hcase with z | z; omega; exact z.2.2.1)
      have hop' := ((Yt.1 _ Wq.1).2.2.1 hO').2
      have hpf := of_decide_eq_false hpf
      rw [wY_apply_261]
      refine br_f (nI_pos (by omega)) ⟨vp_in_nI hk2 (by decide), ?_⟩
      rw [nI_clamp (n := m_yh r') (by omega), hnode]
      refine br_f (y_nneg hn4) ⟨vp_in_nI hk2 (by decide), vp_in_nI hn4 (by decide), ?_⟩
      rw [nI_clamp (n := fr_nd f') (by omega), hop']
      refine fb_if (nI_eq (b := 18) (by omega) (by decide)) (fun z => ?_) (fun z => nm_r (fo_m1 _) hL)
      refine ⟨vp_in_nI hk2 (by decide), ?_⟩
      have hna := (Yt.1 _ Wq.1).2.2.2.1 (by unfold fo_ma; omega)
      have hA' := ((G.1 _ Wq.1).2.2.2.2.2.2.2.2.1 hO').2.2.1 (by omega)
      rcases hcase with ⟨h4, _⟩ | ⟨h4, h7, h8, yA'⟩
      · have := w_md18 Wq.2.2.1 z
        omega
      · have hmd : c_mode (m_yh r') = if fr_ph f' = 3 ∨ fr_ph f' = 5 ∨ fr_ph f' = 6 then 1 else 0 := by
          obtain ⟨⟨nd', ev', ph', rm'⟩, ⟨gt', x0', x1', x2'⟩, ⟨la', bv', bx', ty'⟩, dt', sc', sr', tg', pl'⟩ := f'
          exact yA'.2.2.2.1
        rw [hmd]
        rcases w_md18 Wq.2.2.1 z with y | y
        · rw [if_neg (by omega)]
          refine br_t rfl ⟨vp_in_nI hk2 (by decide), vp_in_nI hn4 (by decide), ?_⟩
          rw [hna]
          exact br_f (xx_ne (fun x => hpf ⟨y, z, x⟩) (by omega) (by omega)) (nm_r (fo_m1 _) hL)
        · rw [if_pos (by omega)]
          exact br_f (by decide) (nm_r (fo_m1 _) hL)
    · intro n f' r' w' Wq h4 h7 h8 yA' hk2 hpt hfind hsuf
      have hn4 := (G.1 _ Wq.1).2.2.2.1
      have hO' := w_lsO Wq.2.2.1 h8
      have hop' := ((Yt.1 _ Wq.1).2.2.1 hO').2
      obtain ⟨t1, t2, t3⟩ := of_decide_eq_true hpt
      have hna := (Yt.1 _ Wq.1).2.2.2.1 (by unfold fo_ma; omega)
      have hgot : c_node (m_yh r') = nI (fr_nd f') ∧ c_mode (m_yh r') = if fr_ph f' = 3 ∨ fr_ph f' = 5 ∨ fr_ph f' = 6 then 1 else 0 := by
        obtain ⟨⟨nd', ev', ph', rm'⟩, ⟨gt', x0', x1', x2'⟩, ⟨la', bv', bx', ty'⟩, dt', sc', sr', tg', pl'⟩ := f'
        exact ⟨yA'.1, yA'.2.2.2.1⟩
      rw [wY_apply_261]
      refine br_f (nI_pos (by omega)) ⟨vp_in_nI hk2 (by decide), ?_⟩
      rw [nI_clamp (n := m_yh r') (by omega), hgot.1]
      refine br_f (y_nneg hn4) ⟨vp_in_nI hk2 (by decide), vp_in_nI hn4 (by decide), ?_⟩
      rw [nI_clamp (n := fr_nd f') (by omega), hop', t2]
      refine br_t rfl ⟨vp_in_nI hk2 (by decide), ?_⟩
      rw [hgot.2, if_neg (by omega)]
      refine br_t rfl ⟨vp_in_nI hk2 (by decide), vp_in_nI hn4 (by decide), ?_⟩
      rw [hna, t3]
      refine br_t rfl (br_t (nI_pos' (by omega)) ?_)
      rw [hfind] at e0
      have := EXI x0 _ e0
      rw [y_at_len hsuf] at this
      exact this
    · intro z n
      rw [wY_apply_261]
      refine br_t (by decide) (br_f (by decide) ?_)
      rw [z] at e0
      refine y_raise (m_yh r + 1) nd (by omega) (Or.inr rfl) ?_
      have := RAI 5 x0 e0
      rw [if_neg (by omega)] at this
      exact this
  · rw [o]
    repeat first | refine br_t (by decide) ?_ | refine br_f (by decide) ?_
    rw [d5 (by rw [o]; decide), tma (by unfold fo_ma; omega)]
    refine y_raise (m_yh r + 1) nd (by omega) (Or.inl rfl) ?_
    have := RAI (gA g nd) x0 (AP o)
    rw [if_pos o] at this
    exact this
  · rw [o]
    repeat first | refine br_t (by decide) ?_ | refine br_f (by decide) ?_
    rw [d5 (by rw [o]; decide), tma (by unfold fo_ma; omega)]
    refine y_raise (m_yh r + 1) nd (by omega) (Or.inr rfl) ?_
    have := RAI (gA g nd) x0 (AP o)
    rw [if_neg (by omega)] at this
    exact this
  · rw [o]
    repeat first | refine br_t (by decide) ?_ | refine br_f (by decide) ?_
    rw [d5 (by rw [o]; decide)]
    have e3 := AP o
    have e3 : m_app g ((nd, ev, 0, []), (gt, x0, x1, x2), (la, 0, bx, ty), dt, sc, sr, tg, pl) r s = m_dlv r x0 (s_pr s x0) := e3
    refine fb_if (nI_leI (a := 24) (by decide) (by omega)) (fun e => ?_) (fun e => ?_)
    · refine nm_r (nI_1 _) ?_
      refine y_done (m_yh r) ?_
      have ep : s_pr s x0 = (s.1, s.2.1, s.2.2.1, s.2.2.2.1 + 1, s.2.2.2.2) := by
        unfold s_pr
        rw [if_neg (by show ¬ sPr s < 24; omega)]
      rw [ep] at e3
      refine h _ ?_
      rw [e3]
      exact y_dlv (s := (s.1, s.2.1, s.2.2.1, s.2.2.2.1 + 1, s.2.2.2.2)) hg Yr
    · refine ⟨vp_in_nI (by omega) (by decide), ?_⟩
      rw [nI_clamp (by omega)]
      refine nm_e (nm_r (nI_1 _) ?_)
      refine y_done (m_yh r) ?_
      have ep : s_pr s x0 = (s.1, s.2.1, upd s.2.2.1 s.2.2.2.1 x0, s.2.2.2.1 + 1, s.2.2.2.2) := by
        unfold s_pr
        rw [if_pos (by show sPr s < 24; omega)]
      rw [ep] at e3
      refine h _ ?_
      rw [e3]
      exact y_dlv (s := (s.1, s.2.1, upd s.2.2.1 s.2.2.2.1 x0, s.2.2.2.1 + 1, s.2.2.2.2)) hg Yr
  · rw [o]
    repeat first | refine br_t (by decide) ?_ | refine br_f (by decide) ?_
    rw [tma (by unfold fo_ma; omega)]
    have hA := har.2.2.2.2.1 o
    obtain ⟨s1, s2, s3⟩ := Yt.2.2.2.2.1 (gA g nd) hA
    have hF : gF g ≤ 200 := G.2.2.2.2.2.2.1
    have hD : gD g ≤ 5 := G.2.2.2.2.2.1
    have hP : gP g (gA g nd) ≤ 3 := G.2.2.2.2.2.2.2.2 _
    have e0 := AP o
    have e0 : m_app g ((nd, ev, 0, []), (gt, x0, x1, x2), (la, 0, bx, ty), dt, sc, sr, tg, pl) r s = (if gC g (gA g nd) = 0 then m_raise g ((nd, ev, 0, []), (gt, x0, x1, x2), (la, 0, bx, ty), dt, sc, sr, tg, pl) r 8 (nI (gA g nd)) s
      else if gP g (gA g nd) ≠ (gK g nd).length then m_raise g ((nd, ev, 0, []), (gt, x0, x1, x2), (la, 0, bx, ty), dt, sc, sr, tg, pl) r 9 (nI (gK g nd).length) s
      else if gD g ≤ m_fc r then m_raise g ((nd, ev, 0, []), (gt, x0, x1, x2), (la, 0, bx, ty), dt, sc, sr, tg, pl) r 7 (nI (m_fc r)) s
      else if gF g ≤ sBe s then (6, 0, none, 0, 0, ((nd, ev, 0, []), (gt, x0, x1, x2), (la, 0, bx, ty), dt, sc, sr, tg, pl) :: r, s)
      else m_ev g (56 * gA g nd) (m_fc r + 1) (((nd, ev, 6, []), (gt, x0, x1, x2), (la, 0, bx, ty), dt, sc, sr, tg, pl) :: r) (s_lo (s_be s (sBe s + 1)) (m_lo s (m_fc r + 1) (gK g nd).length x0 x1 x2))) := e0
    refine ⟨1 + (m_yh r + 1), ?_⟩
    refine y_cnt (g := g) (V := V) (Z := Z) (pa := pa) (Lp := fun n c k => wY_call_6 P (nI (m_yh r)) (nI nd) (nI (gA g nd)) (nI (gD g)) (nI (gF g)) h_count h_open h_types (nI (m_yh r + 1)) ret xt xv xy xp 0 0 1 ((y_z0 oc).1) ((y_z0 oc).2.1) ((y_z0 oc).2.2.1) ((y_z0 oc).2.2.2.1) ((y_z0 oc).2.2.2.2) (nI (sBe s)) (nI (sPr s)) c_sort c_op c_na c_nb c_up c_val c_size c_params c_parent gv (sCe s) (sLo s) gh c_node c_got c_handle c_pTarget c_pPlace c_act c_mode c_bVar c_pType c_v0 c_v1 c_v2 c_last c_bVal c_pVal (sOu s) n (nI c) (nI k)) (M := m_yh r + 1) ?_ ?_ (((nd, ev, 0, []), (gt, x0, x1, x2), (la, 0, bx, ty), dt, sc, sr, tg, pl) :: r) 0 Wf YFr (Nat.le_refl _) 1 ?_
    · intro n c k hk2 hnode hL
      show wY_call_6 _ _ _ _ _ _ _ _ _ _ _ _ _ _ _ _ _ _ _ _ _ _ _ _ _ _ _ _ _ _ _ _ _ _ _ _ _ _ _ _ _ _ _ _ _ _ _ _ _ _ _ _ _ _ _ _ _
      rw [wY_call_6]
      refine br_f (nI_ge (a := k) (b := m_yh r + 1) hk2 (by omega)) ⟨vp_in_nI (by omega) (by decide), ?_⟩
      rw [nI_clamp (by omega), hnode]
      exact br_t (by decide) (nm_r (nI_1 k) hL)
    · intro n c f' r' w' Wq hcase hnode hk2 hL
      have hn4 := (G.1 _ Wq.1).2.2.2.1
      have hO' := w_lsO Wq.2.2.1 (by rcases hcase with z | z; omega; exact z.2.2.1)
      have hop' := ((Yt.1 _ Wq.1).2.2.1 hO').2
      show wY_call_6 _ _ _ _ _ _ _ _ _ _ _ _ _ _ _ _ _ _ _ _ _ _ _ _ _ _ _ _ _ _ _ _ _ _ _ _ _ _ _ _ _ _ _ _ _ _ _ _ _ _ _ _ _ _ _ _ _
      rw [wY_call_6]
      refine br_f (nI_ge (a := m_yh r') (b := m_yh r + 1) hk2 (by omega)) ⟨vp_in_nI (by omega) (by decide), ?_⟩
      rw [nI_clamp (n := m_yh r') (by omega), hnode]
      refine br_f (y_nneg hn4) ⟨vp_in_nI (by omega) (by decide), vp_in_nI hn4 (by decide), ?_⟩
      rw [nI_clamp (n := fr_nd f') (by omega), hop']
      refine fb_if (nI_eq (b := 23) (by omega) (by decide)) (fun z => ?_) (fun z => ?_)
      · refine ⟨vp_in_nI (by omega) (by decide), ?_⟩
        have hmd : c_mode (m_yh r') = if fr_ph f' = 6 then 1 else 0 := by
          rcases hcase with ⟨h4, hm4⟩ | ⟨h4, h7, h8, yA'⟩
          · rw [if_neg (by omega)]; exact hm4
          · have hmd : c_mode (m_yh r') = if fr_ph f' = 3 ∨ fr_ph f' = 5 ∨ fr_ph f' = 6 then 1 else 0 := by
              obtain ⟨⟨nd', ev', ph', rm'⟩, ⟨gt', x0', x1', x2'⟩, ⟨la', bv', bx', ty'⟩, dt', sc', sr', tg', pl'⟩ := f'
              exact yA'.2.2.2.1
            rw [hmd]
            rcases w_md23 Wq.2.2.1 z with y | y | y
            · rw [if_neg (by omega), if_neg (by omega)]
            · rw [if_neg (by omega), if_neg (by omega)]
            · rw [if_pos (by omega), if_pos y]
        rw [hmd]
        by_cases p6 : fr_ph f' = 6
        · rw [if_pos p6] at hL ⊢
          exact br_t rfl (nm_r (nI_1 c) (nm_r (nI_1 _) hL))
        · rw [if_neg p6] at hL ⊢
          exact br_f (by decide) (nm_r (nI_1 _) hL)
      · rw [if_neg (fun y => z (w_ph6 Wq.2.2.1 y))] at hL
        exact nm_r (nI_1 _) hL
    · show wY_call_6 _ _ _ _ _ _ _ _ _ _ _ _ _ _ _ _ _ _ _ _ _ _ _ _ _ _ _ _ _ _ _ _ _ _ _ _ _ _ _ _ _ _ _ _ _ _ _ _ _ _ _ _ _ _ _ _ _
      rw [wY_call_6]
      refine br_t (nI_le (Nat.le_refl (m_yh r + 1)) (by omega)) ?_
      refine ⟨vp_in_nI hA (by decide), ?_⟩
      rw [nI_clamp (by omega), s1]
      refine fb_if (nI_eq (b := 0) (by omega) (by decide)) (fun e => ?_) (fun e => ?_)
      · refine y_raise (m_yh r + 1) nd (by omega) (Or.inr rfl) ?_
        have := RAI 8 _ (e0.trans (if_pos e))
        rw [if_neg (by omega)] at this
        exact this
      · rw [if_neg e] at e0
        refine ⟨vp_in_nI hA (by decide), ?_⟩
        refine Yt.2.1 nd f1 _ _ _ _ _ _ _ _ _ _ _ _ _ _ _ _ _ _ _ _ _ _ _ _ _ _ _ _ _ _ _ _ _ _ _ _ _ _ _ ?_
        rw [s3]
        refine fb_if (nI_eq (by omega) (by omega)) (fun e2 => ?_) (fun e2 => ?_)
        · rw [if_neg (by omega)] at e0
          refine fb_if (nI_eq (a := m_fc r) (by omega) (by omega)) (fun e3 => ?_) (fun e3 => ?_)
          · rw [if_pos (by omega)] at e0
            refine y_raise (m_yh r + 1) nd (by omega) (Or.inr rfl) ?_
            have := RAI 7 _ e0
            rw [if_neg (by omega)] at this
            exact this
          · rw [if_neg (by omega)] at e0
            refine y_beat hs.1 hF (fun e4 => ?_) (fun e4 => ?_)
            · rw [if_neg (by omega)] at e0
              refine br_f (by decide) ?_
              refine yy_w 1 hk y_1b ?_
              have e8 : 8 * (nI (m_fc r) + 1) = nI (8 * (m_fc r + 1)) := by
                rw [nI_1, show (8 : Int32) = nI 8 from rfl, pk_mul]
              refine nm_r e8 ⟨9, ?_⟩
              obtain ⟨wc1, wc2, wc3⟩ := w_call G F W o hA e (by omega)
              have fin : ∀ n', n' = 56 * gA g nd → wpY_evaluate P (yU g h_count h_open h_types c_sort c_op c_na c_nb c_up c_val c_size c_params c_parent (y_z0 oc) 1 (sBe s + 1) (s_lo (s_be s (sBe s + 1)) (m_lo s (m_fc r + 1) (gK g nd).length x0 x1 x2)) (m_yh r + 1) ret xt xv xy xp 0 0 gv gh c_node c_got c_handle c_pTarget c_pPlace c_act (upd c_mode (m_yh r) 1) c_bVar c_pType c_v0 c_v1 c_v2 c_last c_bVal c_pVal) (nI n') (nI (m_fc r + 1)) := by
                intro n' hn'
                subst hn'
                refine y_ev (l := ((nd, ev, 6, []), (gt, x0, x1, x2), (la, 0, bx, ty), dt, sc, sr, tg, pl) :: r) (s := s_lo (s_be s (sBe s + 1)) (m_lo s (m_fc r + 1) (gK g nd).length x0 x1 x2)) G Yt wc3 (by omega) ⟨wc1, W⟩ (fun q r' e => by injection e with e _; rw [← e]; exact ⟨by show (6 : Nat) ≠ 4; decide, by show (6 : Nat) ≠ 8; decide⟩) wc2 (by show sBe s + 1 ≤ gF g; omega) hg ⟨?_, yL_keep W Yr yE_r yE_r yE_r yE_r yE_r yE_r (yE_u yE_r (Nat.le_refl _)) yE_r yE_r yE_r yE_r yE_r yE_r yE_r yE_r⟩ (fun u' hu => h u' (by rw [e0]; exact hu))
                refine (yF_A (f := ((nd, ev, 6, []), (gt, x0, x1, x2), (la, 0, bx, ty), dt, sc, sr, tg, pl)) (by show (6 : Nat) ≠ 7; decide) (by show (6 : Nat) ≠ 4; decide) (by show (6 : Nat) ≠ 8; decide)).mpr ?_
                refine ⟨k0, k1, YA.2.2.1, pk_us, fun _ => ⟨kb, fun z => absurd rfl z⟩, fun z => ?_, fun z => (by cases z), fun z => (by cases z), fun z => (by cases z), fun z => (by cases z), fun z => (by cases z)⟩
                rcases z with z | z | ⟨z, _⟩ <;> cases z
              have f257 : wY_call_257 P (nI (gA g nd)) (nI (m_fc r)) (nI (gD g)) (nI (gF g)) h_count h_open h_types (nI (m_yh r + 1)) ret xt xv xy xp 0 0 1 ((y_z0 oc).1) ((y_z0 oc).2.1) ((y_z0 oc).2.2.1) ((y_z0 oc).2.2.2.1) ((y_z0 oc).2.2.2.2) (nI (sBe s + 1)) (nI (sPr s)) c_sort c_op c_na c_nb c_up c_val c_size c_params c_parent gv (sCe s) (x_lo (sLo s) (m_fc r + 1) (gK g nd).length x0 x1 x2 8) gh c_node c_got c_handle c_pTarget c_pPlace c_act (upd c_mode (m_yh r) 1) c_bVar c_pType c_v0 c_v1 c_v2 c_last c_bVal c_pVal (sOu s) := by
                unfold wY_call_257
                rw [nI_1, show (56 : Int32) = nI 56 from rfl, pk_mul]
                exact fin _ rfl
              have e16 : nI (8 * (m_fc r + 1)) + 1 = nI (8 * (m_fc r + 1) + 1) := nI_1 _
              have e26 : nI (8 * (m_fc r + 1)) + 2 = nI (8 * (m_fc r + 1) + 2) := nI_add _ 2
              have hx := x_lo_0 (sLo s) (m_fc r + 1) 0 x0 x1 x2
              have hkk : gP g (gA g nd) = 0 ∨ gP g (gA g nd) = 1 ∨ gP g (gA g nd) = 2 ∨ gP g (gA g nd) = 3 := by omega
              have H0 : wY_call_161 P (nI (m_yh r)) (nI (gA g nd)) (nI (m_fc r)) (nI (8 * (m_fc r + 1))) (nI (gD g)) (nI (gF g)) h_count h_open h_types (nI (m_yh r + 1)) ret xt xv xy xp 0 0 1 ((y_z0 oc).1) ((y_z0 oc).2.1) ((y_z0 oc).2.2.1) ((y_z0 oc).2.2.2.1) ((y_z0 oc).2.2.2.2) (nI (sBe s + 1)) (nI (sPr s)) 1 8 c_sort c_op c_na c_nb c_up c_val c_size c_params c_parent gv (sCe s) (x_lo (sLo s) (m_fc r + 1) 0 x0 x1 x2 8) gh c_node c_got c_handle c_pTarget c_pPlace c_act (upd c_mode (m_yh r) 1) c_bVar c_pType c_v0 c_v1 c_v2 c_last c_bVal c_pVal (sOu s) := by
                rw [wY_call_161]
                refine br_t (by decide) ⟨vp_in_nI hA (by decide), ?_⟩
                rw [nI_clamp (n := gA g nd) (by omega), s3]
                rw [← e2] at f257
                rcases hkk with k | k | k | k
                · rw [k] at f257 ⊢
                  refine br_t (by decide) ⟨vp_in_nI hA (by decide), ?_⟩
                  rw [nI_clamp (n := gA g nd) (by omega), s3, k]
                  refine br_t (by decide) ⟨vp_in_nI hA (by decide), ?_⟩
                  rw [nI_clamp (n := gA g nd) (by omega), s3, k]
                  exact br_t (by decide) f257
                · rw [k] at f257 ⊢
                  refine br_f (by decide) ⟨vp_in_nI hk (by decide), vp_in_nI (by omega) (by decide), ?_⟩
                  rw [nI_clamp (n := m_yh r) (by omega), nI_clamp (n := 8 * (m_fc r + 1)) (by omega), e1 (by omega)]
                  refine nm_r (y_lo_k (sLo s) (m_fc r + 1) 0 x0 x1 x2 x0 (by decide) rfl) ?_
                  refine ⟨vp_in_nI hA (by decide), ?_⟩
                  rw [nI_clamp (n := gA g nd) (by omega), s3, k]
                  refine br_t (by decide) ⟨vp_in_nI hA (by decide), ?_⟩
                  rw [nI_clamp (n := gA g nd) (by omega), s3, k]
                  exact br_t (by decide) f257
                · rw [k] at f257 ⊢
                  refine br_f (by decide) ⟨vp_in_nI hk (by decide), vp_in_nI (by omega) (by decide), ?_⟩
                  rw [nI_clamp (n := m_yh r) (by omega), nI_clamp (n := 8 * (m_fc r + 1)) (by omega), e1 (by omega)]
                  refine nm_r (y_lo_k (sLo s) (m_fc r + 1) 0 x0 x1 x2 x0 (by decide) rfl) ?_
                  refine ⟨vp_in_nI hA (by decide), ?_⟩
                  rw [nI_clamp (n := gA g nd) (by omega), s3, k]
                  refine br_f (by decide) ⟨vp_in_nI hk (by decide), ?_⟩
                  rw [e16]
                  refine ⟨vp_in_nI (by omega) (by decide), ?_⟩
                  rw [nI_clamp (n := m_yh r) (by omega), nI_clamp (n := 8 * (m_fc r + 1) + 1) (by omega), e2' (by omega)]
                  refine nm_r (y_lo_k (sLo s) (m_fc r + 1) 1 x0 x1 x2 x1 (by decide) rfl) ?_
                  refine ⟨vp_in_nI hA (by decide), ?_⟩
                  rw [nI_clamp (n := gA g nd) (by omega), s3, k]
                  exact br_t (by decide) f257
                · rw [k] at f257 ⊢
                  refine br_f (by decide) ⟨vp_in_nI hk (by decide), vp_in_nI (by omega) (by decide), ?_⟩
                  rw [nI_clamp (n := m_yh r) (by omega), nI_clamp (n := 8 * (m_fc r + 1)) (by omega), e1 (by omega)]
                  refine nm_r (y_lo_k (sLo s) (m_fc r + 1) 0 x0 x1 x2 x0 (by decide) rfl) ?_
                  refine ⟨vp_in_nI hA (by decide), ?_⟩
                  rw [nI_clamp (n := gA g nd) (by omega), s3, k]
                  refine br_f (by decide) ⟨vp_in_nI hk (by decide), ?_⟩
                  rw [e16]
                  refine ⟨vp_in_nI (by omega) (by decide), ?_⟩
                  rw [nI_clamp (n := m_yh r) (by omega), nI_clamp (n := 8 * (m_fc r + 1) + 1) (by omega), e2' (by omega)]
                  refine nm_r (y_lo_k (sLo s) (m_fc r + 1) 1 x0 x1 x2 x1 (by decide) rfl) ?_
                  refine ⟨vp_in_nI hA (by decide), ?_⟩
                  rw [nI_clamp (n := gA g nd) (by omega), s3, k]
                  refine br_f (by decide) ⟨vp_in_nI hk (by decide), ?_⟩
                  rw [e26]
                  refine ⟨vp_in_nI (by omega) (by decide), ?_⟩
                  rw [nI_clamp (n := m_yh r) (by omega), nI_clamp (n := 8 * (m_fc r + 1) + 2) (by omega), e3' (by omega)]
                  exact nm_r (y_lo_k (sLo s) (m_fc r + 1) 2 x0 x1 x2 x2 (by decide) rfl) f257
              have := y_loc (m_fc r + 1) (by omega) H0 8 0 9 (by omega) rfl
              rw [hx] at this
              exact this
            · rw [if_pos e4] at e0
              refine br_t rfl ?_
              refine h _ ?_
              rw [e0]
              exact Or.inl ⟨oc, sBe s, m_yh r + 1, ret, xt, xv, xy, xp, 0, 0, gv, gh, c_node, c_got, c_handle, c_pTarget, c_pPlace, c_act, c_mode, c_bVar, c_pType, c_v0, c_v1, c_v2, c_last, c_bVal, c_pVal, hg, fun z => absurd z (by show ¬ 6 < 4; decide), fun z => (by cases z), fun z => (by cases z), fun z => (by cases z), fun z => (by cases z), fun _ => rfl, rfl⟩
        · rw [if_pos e2] at e0
          refine Yt.2.1 nd f1 _ _ _ _ _ _ _ _ _ _ _ _ _ _ _ _ _ _ _ _ _ _ _ _ _ _ _ _ _ _ _ _ _ _ _ _ _ _ _ ?_
          refine y_raise (m_yh r + 1) nd (by omega) (Or.inr rfl) ?_
          have := RAI 9 _ e0
          rw [if_neg (by omega)] at this
          exact this
  · rw [o]
    repeat first | refine br_t (by decide) ?_ | refine br_f (by decide) ?_
    rw [d5 (by rw [o]; decide), tma (by unfold fo_ma; omega)]
    have hA := har.2.2.2.2.2 (by omega)
    have e0 := AP o
    have e0 : m_app g ((nd, ev, 0, []), (gt, x0, x1, x2), (la, 0, bx, ty), dt, sc, sr, tg, pl) r s = (if x0 < 0 ∨ 16 ≤ x0 then m_raise g ((nd, ev, 0, []), (gt, x0, x1, x2), (la, 0, bx, ty), dt, sc, sr, tg, pl) r 6 x0 s else m_dlv r (sCe s (16 * gA g nd + x0.toNatClampNeg)) s) := e0
    refine fb_if Iff.rfl (fun e => ?_) (fun e => ?_)
    · rw [if_pos (Or.inl e)] at e0
      refine y_raise (m_yh r + 1) nd (by omega) (Or.inr rfl) ?_
      have := RAI 6 x0 e0
      rw [if_neg (by omega)] at this
      exact this
    · refine fb_if y_le15 (fun e2 => ?_) (fun e2 => ?_)
      · rw [if_neg (by rintro (z | z); exact e z; exact e2 z)] at e0
        obtain ⟨j, hj, rfl⟩ := fb_lt 0 16 e e2 (by decide) (by decide)
        rw [Nat.zero_add] at *
        rw [nI_clamp (by omega)] at e0
        have ei : 16 * nI (gA g nd) + nI j = nI (16 * gA g nd + j) := by
          rw [show (16 : Int32) = nI 16 from rfl, pk_mul, nI_add]
        rw [ei]
        refine xx_n (by omega) ?_
        refine br_f (by decide) ?_
        exact y_done (m_yh r) (FIN _ e0)
      · rw [if_pos (Or.inr (Decidable.not_not.mp e2))] at e0
        refine y_raise (m_yh r + 1) nd (by omega) (Or.inr rfl) ?_
        have := RAI 6 x0 e0
        rw [if_neg (by omega)] at this
        exact this
  · rw [o]
    repeat first | refine br_t (by decide) ?_ | refine br_f (by decide) ?_
    rw [d5 (by rw [o]; decide), d6 (by rw [o]; decide), tma (by unfold fo_ma; omega)]
    have hA := har.2.2.2.2.2 (by omega)
    have e0 := AP o
    have e0 : m_app g ((nd, ev, 0, []), (gt, x0, x1, x2), (la, 0, bx, ty), dt, sc, sr, tg, pl) r s = (if x0 < 0 ∨ 16 ≤ x0 then m_raise g ((nd, ev, 0, []), (gt, x0, x1, x2), (la, 0, bx, ty), dt, sc, sr, tg, pl) r 6 x0 s else m_dlv r (sCe s (16 * gA g nd + x0.toNatClampNeg)) (s_ce s (upd (sCe s) (16 * gA g nd + x0.toNatClampNeg) (m_kb (gA g nd) (sCe s (16 * gA g nd + x0.toNatClampNeg) + x1))))) := e0
    refine fb_if Iff.rfl (fun e => ?_) (fun e => ?_)
    · rw [if_pos (Or.inl e)] at e0
      refine y_raise (m_yh r + 1) nd (by omega) (Or.inr rfl) ?_
      have := RAI 6 x0 e0
      rw [if_neg (by omega)] at this
      exact this
    · refine fb_if y_le15 (fun e2 => ?_) (fun e2 => ?_)
      · rw [if_neg (by rintro (z | z); exact e z; exact e2 z)] at e0
        obtain ⟨j, hj, rfl⟩ := fb_lt 0 16 e e2 (by decide) (by decide)
        rw [Nat.zero_add] at *
        rw [nI_clamp (by omega)] at e0
        have ei : 16 * nI (gA g nd) + nI j = nI (16 * gA g nd + j) := by
          rw [show (16 : Int32) = nI 16 from rfl, pk_mul, nI_add]
        rw [ei]
        refine xx_n (by omega) ?_
        refine br_t rfl ?_
        refine y_nar hA ?_
        refine ⟨vp_in_nI (by omega) (by decide), ?_⟩
        rw [nI_clamp (by omega)]
        refine nm_e ?_
        refine y_done (m_yh r) ?_
        refine h _ ?_
        rw [e0]
        exact y_dlv (s := s_ce s (upd (sCe s) (16 * gA g nd + j) (m_kb (gA g nd) (sCe s (16 * gA g nd + j) + x1)))) hg Yr
      · rw [if_pos (Or.inr (Decidable.not_not.mp e2))] at e0
        refine y_raise (m_yh r + 1) nd (by omega) (Or.inr rfl) ?_
        have := RAI 6 x0 e0
        rw [if_neg (by omega)] at this
        exact this
  · rw [o]
    repeat first | refine br_t (by decide) ?_ | refine br_f (by decide) ?_
    rw [tma (by unfold fo_ma; omega)]
    have hA := har.2.1 (by omega)
    have e0 := AP o
    have e0 : m_app g ((nd, ev, 0, []), (gt, x0, x1, x2), (la, 0, bx, ty), dt, sc, sr, tg, pl) r s = m_dlv r (match m_cur (sGl s) (gA g nd) r with
      | some _ => 1
      | none => 0) s := e0
    have hc : m_cur (sGl s) (gA g nd) (((nd, ev, 0, []), (gt, x0, x1, x2), (la, 0, bx, ty), dt, sc, sr, tg, pl) :: r) = m_cur (sGl s) (gA g nd) r := if_neg (by show ¬ 0 = gA g nd; omega)
    refine y_bound (gl := sGl s) (l := ((nd, ev, 0, []), (gt, x0, x1, x2), (la, 0, bx, ty), dt, sc, sr, tg, pl) :: r) (gA g nd) (by omega) hA.2 Wf (fun q r' e => by injection e with e _; rw [← e]; exact ⟨by show (0 : Nat) ≠ 4; decide, by show (0 : Nat) ≠ 8; decide⟩) YFr (by rw [hyf]; omega) hg ?_
    rw [hc]
    cases hm : m_cur (sGl s) (gA g nd) r with
    | none =>
      rw [hm] at e0
      exact br_t rfl (y_done (m_yh r) (FIN 0 e0))
    | some x =>
      rw [hm] at e0
      exact br_f (show ¬ (1 : Int32) = 0 by decide) (y_done (m_yh r) (FIN 1 e0))
end
