/-! the reference's side: evaluating a node; what one step more settles -/
section
variable {g : mG} {V : Nat → Prop} {Z : Nat → Nat} {pa : Nat → Option Nat} {T : Nat} {h_count h_open h_types : Int32} {c_sort c_op c_na c_nb c_up c_val c_size c_params c_parent : Nat → Int32} {s : St} {oc ret xt xv xy xp ha exi v : Int32} {be : Nat} {gv gh : Nat → Int32} {c_node c_got c_handle c_pTarget c_pPlace c_act c_mode c_bVar c_pType c_v0 c_v1 c_v2 c_last c_bVal c_pVal : Nat → Int32} {l r : List Fr} {f : Fr} {P : SY → Prop} {post : Int32 → SY → Prop} {N i p q : Nat}
/-- the relation, or a state that comes to it by one step more -/
def yQ (g : mG) (V : Nat → Prop) (h_count h_open h_types : Int32) (c_sort c_op c_na c_nb c_up c_val c_size c_params c_parent : Nat → Int32) (m : MS) (u : SY) : Prop := py_R g h_count h_open h_types c_sort c_op c_na c_nb c_up c_val c_size c_params c_parent m u ∨
  (∃ (v oc xt xv xy xp : Int32) (gv gh : Nat → Int32) (c_node c_got c_handle c_pTarget c_pPlace c_act c_mode c_bVar c_pType c_v0 c_v1 c_v2 c_last c_bVal c_pVal : Nat → Int32) (s : St), m = (4, v, none, 0, 0, [], s) ∧ yGl gv gh (sGl s) ∧ u = yU g h_count h_open h_types c_sort c_op c_na c_nb c_up c_val c_size c_params c_parent (y_z0 oc) 1 (sBe s) s 0 v xt xv xy xp 1 0 gv gh c_node c_got c_handle c_pTarget c_pPlace c_act c_mode c_bVar c_pType c_v0 c_v1 c_v2 c_last c_bVal c_pVal) ∨
  (∃ (oc ret xt xv xy xp : Int32) (gv gh : Nat → Int32) (c_node c_got c_handle c_pTarget c_pPlace c_act c_mode c_bVar c_pType c_v0 c_v1 c_v2 c_last c_bVal c_pVal : Nat → Int32) (s : St) (l : List Fr) (k n : Nat), m = (6, 0, none, 0, 0, l, s) ∧ yGl gv gh (sGl s) ∧ k < 520 ∧ V n ∧ gO g n = 10 ∧ c_node k = nI n ∧ c_got k = 0 ∧ gF g ≤ sBe s ∧ sBe s ≤ gF g ∧ u = yU g h_count h_open h_types c_sort c_op c_na c_nb c_up c_val c_size c_params c_parent (y_z0 oc) 1 (sBe s) s (k + 1) ret xt xv xy xp 0 0 gv gh c_node c_got c_handle c_pTarget c_pPlace c_act c_mode c_bVar c_pType c_v0 c_v1 c_v2 c_last c_bVal c_pVal)
theorem y_dlv (hg : yGl gv gh (sGl s)) (Y : yL g c_node c_got c_handle c_pTarget c_pPlace c_act c_mode c_bVar c_pType c_v0 c_v1 c_v2 c_last c_bVal c_pVal l) : yQ g V h_count h_open h_types c_sort c_op c_na c_nb c_up c_val c_size c_params c_parent (m_dlv l v s) (yU g h_count h_open h_types c_sort c_op c_na c_nb c_up c_val c_size c_params c_parent (y_z0 oc) 1 (sBe s) s (m_yh l) v xt xv xy xp 1 0 gv gh c_node c_got c_handle c_pTarget c_pPlace c_act c_mode c_bVar c_pType c_v0 c_v1 c_v2 c_last c_bVal c_pVal) := by
  cases l with
  | nil => exact Or.inr (Or.inl ⟨v, oc, xt, xv, xy, xp, gv, gh, c_node, c_got, c_handle, c_pTarget, c_pPlace, c_act, c_mode, c_bVar, c_pType, c_v0, c_v1, c_v2, c_last, c_bVal, c_pVal, s, rfl, hg, rfl⟩)
  | cons f r => exact Or.inl ⟨oc, sBe s, m_yh (f :: r), v, xt, xv, xy, xp, 1, 0, gv, gh, c_node, c_got, c_handle, c_pTarget, c_pPlace, c_act, c_mode, c_bVar, c_pType, c_v0, c_v1, c_v2, c_last, c_bVal, c_pVal, hg, fun _ => ⟨rfl, Y⟩, fun z => (by cases z), fun _ => ⟨rfl, rfl, rfl⟩, fun z => (by cases z), fun z => (by cases z), fun _ => rfl, rfl⟩
theorem y_len {n : Nat} (h : w_iq g Z n l) (hZ : 1 ≤ Z n) : m_yh l ≤ 518 := by
  have := h.1
  omega
theorem y_ev (G : g_w g V Z pa T) (Yt : yT g V h_count h_open h_types c_sort c_op c_na c_nb c_up c_val c_size c_params c_parent) {n e : Nat} (hV : V n) (he : e ≤ 5) (W : w_l g V Z pa 1 l) (ht : ∀ q r', l = q :: r' → fr_ph q ≠ 4 ∧ fr_ph q ≠ 8) (hi : w_iq g Z n l) (hs : sBe s ≤ gF g) (hg : yGl gv gh (sGl s)) (Y : yL g c_node c_got c_handle c_pTarget c_pPlace c_act c_mode c_bVar c_pType c_v0 c_v1 c_v2 c_last c_bVal c_pVal l) (h : ∀ u', yQ g V h_count h_open h_types c_sort c_op c_na c_nb c_up c_val c_size c_params c_parent (m_ev g n e l s) u' → P u') : wpY_evaluate P (yU g h_count h_open h_types c_sort c_op c_na c_nb c_up c_val c_size c_params c_parent (y_z0 oc) 1 (sBe s) s (m_yh l) ret xt xv xy xp 0 0 gv gh c_node c_got c_handle c_pTarget c_pPlace c_act c_mode c_bVar c_pType c_v0 c_v1 c_v2 c_last c_bVal c_pVal) (nI n) (nI e) := by
  obtain ⟨n1, n2, n3, n4, n5, n6, n7, n8, _⟩ := G.1 n hV
  obtain ⟨t27, t28, t26, tma, tb⟩ := Yt.1 n hV
  have h5 := y_len hi n2
  unfold m_ev at h
  refine ⟨vp_in_nI n4 (by decide), ?_⟩
  rw [nI_clamp (by omega)]
  by_cases o27 : gO g n = 27
  · rw [if_pos o27] at h
    obtain ⟨a1, a2⟩ := t27 o27
    refine br_t a1 ⟨vp_in_nI n4 (by decide), ?_⟩
    rw [a2]
    exact h _ (y_dlv hg Y)
  · rw [if_neg o27] at h
    by_cases o28 : gO g n = 28
    · rw [if_pos o28] at h
      obtain ⟨a1, a2⟩ := t28 o28
      have hA := n8 o28
      refine br_f (by rw [a1]; decide) ⟨vp_in_nI n4 (by decide), br_t a1 ?_⟩
      refine ⟨vp_in_nI n4 (by decide), ?_⟩
      rw [a2]
      refine nm_e ?_
      by_cases a8 : gA g n < 8
      · rw [if_pos a8] at h
        refine br_f (nI_ge (b := 8) a8 (by decide)) ?_
        have ei : 8 * nI e + nI (gA g n) = nI (8 * e + gA g n) := by
          rw [show (8 : Int32) = nI 8 from rfl, pk_mul, nI_add]
        rw [ei]
        refine ⟨vp_in_nI (by omega) (by decide), ?_⟩
        rw [nI_clamp (by omega)]
        exact h _ (y_dlv hg Y)
      · rw [if_neg a8] at h
        refine br_t (nI_le (a := 8) (by omega) (by omega)) ?_
        refine y_bound (gl := sGl s) (gA g n) (by omega) hA W ht Y (by omega) hg ?_
        cases hm : m_cur (sGl s) (gA g n) l with
        | some x =>
          rw [hm] at h
          refine br_f (show ¬ (1 : Int32) = 0 by decide) ?_
          refine y_curr (gl := sGl s) (gA g n) (by omega) hA W ht Y (by omega) hg hm ?_
          exact h _ (y_dlv hg Y)
        | none =>
          rw [hm] at h
          refine br_t rfl ?_
          refine y_raise (m_yh l) n (by omega) (Or.inr rfl) ?_
          refine h _ (Or.inl ⟨oc, sBe s, m_yh l + 1, ret, xt, xv, xy, xp, 0, 0, gv, gh, upd c_node (m_yh l) (-1), upd (upd c_got (m_yh l) 0) (m_yh l) (nI (m_yh l) - 1), c_handle, c_pTarget, c_pPlace, upd c_act (m_yh l) 0, upd (upd c_mode (m_yh l) 0) (m_yh l) 1, upd c_bVar (m_yh l) (-1), c_pType, upd c_v0 (m_yh l) 4, upd c_v1 (m_yh l) (nI (gA g n)), upd c_v2 (m_yh l) (nI n), upd c_last (m_yh l) 0, c_bVal, c_pVal, hg, fun _ => ⟨rfl, ?_, ?_⟩, fun z => (by cases z), fun z => (by cases z), fun _ => rfl, fun z => (by cases z), fun _ => rfl, rfl⟩)
          · refine ⟨pk_us, pk_us, pk_us, pk_us, ?_, ?_⟩
            · rw [pk_us]
              show (1 : Int32) = if gO g n = 20 then 0 else 1
              rw [if_neg (by omega)]
            · rw [pk_us]
              show nI (m_yh l) - 1 = nI (y_at l l.length) - 1
              unfold y_at
              rw [Nat.sub_self]; rfl
          · exact yL_keep W Y (yE_u yE_r (Nat.le_refl _)) (yE_u (yE_u yE_r (Nat.le_refl _)) (Nat.le_refl _)) yE_r yE_r yE_r (yE_u yE_r (Nat.le_refl _)) (yE_u (yE_u yE_r (Nat.le_refl _)) (Nat.le_refl _)) (yE_u yE_r (Nat.le_refl _)) yE_r (yE_u yE_r (Nat.le_refl _)) (yE_u yE_r (Nat.le_refl _)) (yE_u yE_r (Nat.le_refl _)) (yE_u yE_r (Nat.le_refl _)) yE_r yE_r
    · rw [if_neg o28] at h
      have hO : gO g n ≤ 26 := by omega
      obtain ⟨a1, a2⟩ := t26 hO
      refine br_f (by rw [a1]; decide) ⟨vp_in_nI n4 (by decide), br_f (by rw [a1]; decide) ?_⟩
      refine y_push (m_yh l) n e (by omega) n4 (by omega) ?_
      have em : ∃ ph rm, (ph = 0 ∨ ph = 1) ∧ m_new g n e = ((n, e, ph, rm), (0, 0, 0, 0), (0, 0, 0, 0), 0, [], 0, none, 0) := by
        refine ⟨_, _, ?_, rfl⟩
        split
        · exact Or.inr rfl
        · exact Or.inl rfl
      obtain ⟨ph, rm, hph, em⟩ := em
      have hYn : yL g (upd c_node (m_yh l) (nI n)) (upd c_got (m_yh l) 0) c_handle c_pTarget c_pPlace (upd c_act (m_yh l) (nI e)) (upd c_mode (m_yh l) 0) (upd c_bVar (m_yh l) (-1)) c_pType c_v0 c_v1 c_v2 (upd c_last (m_yh l) 0) c_bVal c_pVal (m_new g n e :: l) := by
        refine ⟨?_, yL_keep W Y (yE_u yE_r (Nat.le_refl _)) (yE_u yE_r (Nat.le_refl _)) yE_r yE_r yE_r (yE_u yE_r (Nat.le_refl _)) (yE_u yE_r (Nat.le_refl _)) (yE_u yE_r (Nat.le_refl _)) yE_r yE_r yE_r yE_r (yE_u yE_r (Nat.le_refl _)) yE_r yE_r⟩
        rw [em]
        refine (yF_A (f := ((n, e, ph, rm), (0, 0, 0, 0), (0, 0, 0, 0), 0, [], 0, none, 0)) (show ph ≠ 7 by omega) (show ph ≠ 4 by omega) (show ph ≠ 8 by omega)).mpr ?_
        refine ⟨pk_us, pk_us, pk_us, ?_, fun _ => ⟨pk_us, fun z => absurd rfl z⟩, fun _ z => absurd z (by decide), fun _ z => absurd z (by decide), fun _ z => absurd z (by decide), fun _ _ => pk_us, fun _ _ z => (by cases z), fun z => ?_⟩
        · rw [pk_us, if_neg (by omega)]
        · omega
      have ey : m_yh (m_new g n e :: l) = m_yh l + 1 := by
        rw [em]
        exact m_yh_1 (show ph ≠ 7 by omega) (show ph ≠ 4 by omega)
      by_cases o10 : gO g n = 10
      · rw [if_pos o10] at h
        by_cases hb : sBe s < gF g
        · rw [if_pos hb] at h
          refine h _ (Or.inl ⟨oc, sBe s, m_yh l + 1, ret, xt, xv, xy, xp, 0, 0, gv, gh, upd c_node (m_yh l) (nI n), upd c_got (m_yh l) 0, c_handle, c_pTarget, c_pPlace, upd c_act (m_yh l) (nI e), upd c_mode (m_yh l) 0, upd c_bVar (m_yh l) (-1), c_pType, c_v0, c_v1, c_v2, upd c_last (m_yh l) 0, c_bVal, c_pVal, hg, fun _ => ⟨ey.symm, hYn⟩, fun _ => ⟨rfl, rfl, ?_⟩, fun z => (by cases z), fun z => (by cases z), fun z => (by cases z), fun z => absurd z (by show ¬ 1 ≤ 0; decide), rfl⟩)
          show sBe s + (if gO g n = 10 then 1 else 0) = sBe s + 1
          rw [if_pos o10]
        · rw [if_neg hb] at h
          exact h _ (Or.inr (Or.inr ⟨oc, ret, xt, xv, xy, xp, gv, gh, upd c_node (m_yh l) (nI n), upd c_got (m_yh l) 0, c_handle, c_pTarget, c_pPlace, upd c_act (m_yh l) (nI e), upd c_mode (m_yh l) 0, upd c_bVar (m_yh l) (-1), c_pType, c_v0, c_v1, c_v2, upd c_last (m_yh l) 0, c_bVal, c_pVal, s, _, m_yh l, n, rfl, hg, by omega, hV, o10, pk_us, pk_us, by omega, hs, rfl⟩))
      · rw [if_neg o10] at h
        refine h _ (Or.inl ⟨oc, sBe s, m_yh l + 1, ret, xt, xv, xy, xp, 0, 0, gv, gh, upd c_node (m_yh l) (nI n), upd c_got (m_yh l) 0, c_handle, c_pTarget, c_pPlace, upd c_act (m_yh l) (nI e), upd c_mode (m_yh l) 0, upd c_bVar (m_yh l) (-1), c_pType, c_v0, c_v1, c_v2, upd c_last (m_yh l) 0, c_bVal, c_pVal, hg, fun _ => ⟨ey.symm, hYn⟩, fun _ => ⟨rfl, rfl, ?_⟩, fun z => (by cases z), fun z => (by cases z), fun z => (by cases z), fun z => absurd z (by show ¬ 1 ≤ 0; decide), rfl⟩)
        show sBe s + (if gO g n = 10 then 1 else 0) = sBe s
        rw [if_neg o10]; rfl
/-- what is left to do is done -/
theorem y_settle (G : g_w g V Z pa T) (Yt : yT g V h_count h_open h_types c_sort c_op c_na c_nb c_up c_val c_size c_params c_parent) {m : MS} {u : SY} (hi : i + 2 < 1000000) (S : yQ g V h_count h_open h_types c_sort c_op c_na c_nb c_up c_val c_size c_params c_parent m u) (H : ∀ p q, p + q = 2 → ∀ u', py_R g h_count h_open h_types c_sort c_op c_na c_nb c_up c_val c_size c_params c_parent m u' → yR post (N + p) (i + q) u') : yR post (N + 1) (i + 1) u := by
  rcases S with R | ⟨v, oc, xt, xv, xy, xp, gv, gh, c_node, c_got, c_handle, c_pTarget, c_pPlace, c_act, c_mode, c_bVar, c_pType, c_v0, c_v1, c_v2, c_last, c_bVal, c_pVal, s, rfl, hg, rfl⟩ | ⟨oc, ret, xt, xv, xy, xp, gv, gh, c_node, c_got, c_handle, c_pTarget, c_pPlace, c_act, c_mode, c_bVar, c_pType, c_v0, c_v1, c_v2, c_last, c_bVal, c_pVal, s, l, k, n, rfl, hg, hk, hV, o10, k1, k2, hF, hF2, rfl⟩
  · exact H 1 1 rfl u R
  · refine y_go (by omega) (show ¬ (1 : Int32) = 0 by decide) ?_
    refine br_t rfl (br_t rfl ?_)
    show yR post N (i + 2) (yU g h_count h_open h_types c_sort c_op c_na c_nb c_up c_val c_size c_params c_parent (0, v, 0, 0, -1) 0 (sBe s) s 0 v xt xv xy xp 1 0 gv gh c_node c_got c_handle c_pTarget c_pPlace c_act c_mode c_bVar c_pType c_v0 c_v1 c_v2 c_last c_bVal c_pVal)
    exact H 0 2 rfl _ ⟨oc, sBe s, 0, v, xt, xv, xy, xp, 1, 0, gv, gh, c_node, c_got, c_handle, c_pTarget, c_pPlace, c_act, c_mode, c_bVar, c_pType, c_v0, c_v1, c_v2, c_last, c_bVal, c_pVal, hg, fun z => absurd z (by show ¬ 4 < 4; decide), fun z => (by cases z), fun z => (by cases z), fun z => (by cases z), fun z => (by cases z), fun _ => rfl, rfl⟩
  · have hn := (G.1 n hV).2.2.2.1
    have hop := ((Yt.1 n hV).2.2.1 (by omega)).2
    have hF3 : gF g ≤ 200 := G.2.2.2.2.2.2.1
    refine y_go (by omega) (show ¬ (1 : Int32) = 0 by decide) ?_
    refine br_t rfl ?_
    refine br_f (xx_ne (a := k + 1) (b := 0) (by omega) (by omega) (by decide)) ?_
    rw [show (nI (k + 1) - 1 : Int32) = nI k from nI_pred k]
    refine ⟨vp_in_nI hk (by decide), ?_⟩
    rw [nI_clamp (by omega), k1]
    refine br_t (nI_pos' (by omega)) ?_
    unfold wpY_advance
    dsimp only
    refine ⟨vp_in_nI hk (by decide), ?_⟩
    rw [nI_clamp (by omega), k1]
    refine nm_e ?_
    refine xx_n hn ?_
    rw [hop, o10]
    refine Yt.2.1 n hV _ _ _ _ _ _ _ _ _ _ _ _ _ _ _ _ _ _ _ _ _ _ _ _ _ _ _ _ _ _ _ _ _ _ _ _ _ _ _ ?_
    refine br_t rfl ?_
    refine ⟨vp_in_nI hk (by decide), ?_⟩
    rw [nI_clamp (by omega), k2]
    refine nm_e ?_
    refine br_f (by decide) (br_t rfl ?_)
    refine br_t rfl ?_
    refine y_beat hF2 hF3 (fun z => by omega) (fun z => ?_)
    refine br_t rfl ?_
    show yR post N (i + 2) (yU g h_count h_open h_types c_sort c_op c_na c_nb c_up c_val c_size c_params c_parent (2, 0, 0, 0, -1) 0 (sBe s) s (k + 1) ret xt xv xy xp 0 0 gv gh c_node c_got c_handle c_pTarget c_pPlace c_act c_mode c_bVar c_pType c_v0 c_v1 c_v2 c_last c_bVal c_pVal)
    exact H 0 2 rfl _ ⟨oc, sBe s, k + 1, ret, xt, xv, xy, xp, 0, 0, gv, gh, c_node, c_got, c_handle, c_pTarget, c_pPlace, c_act, c_mode, c_bVar, c_pType, c_v0, c_v1, c_v2, c_last, c_bVal, c_pVal, hg, fun z => absurd z (by show ¬ 6 < 4; decide), fun z => (by cases z), fun z => (by cases z), fun z => (by cases z), fun z => (by cases z), fun _ => rfl, rfl⟩
end
