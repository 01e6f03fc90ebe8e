/-! the abstract machine between the class and the reference: a list of frames, the top first -/
abbrev Fr : Type := (Nat × Nat × Nat × List Nat) × (Nat × Int32 × Int32 × Int32) × (Int32 × Nat × Int32 × Nat) × Int32 × List (Nat × Nat × Nat) × Nat × Option Nat × Int32
def fr_nd (f : Fr) : Nat := f.1.1
def fr_ev (f : Fr) : Nat := f.1.2.1
def fr_ph (f : Fr) : Nat := f.1.2.2.1
def fr_rm (f : Fr) : List Nat := f.1.2.2.2
def fr_gt (f : Fr) : Nat := f.2.1.1
def fr_x0 (f : Fr) : Int32 := f.2.1.2.1
def fr_x1 (f : Fr) : Int32 := f.2.1.2.2.1
def fr_x2 (f : Fr) : Int32 := f.2.1.2.2.2
def fr_la (f : Fr) : Int32 := f.2.2.1.1
def fr_bv (f : Fr) : Nat := f.2.2.1.2.1
def fr_bx (f : Fr) : Int32 := f.2.2.1.2.2.1
def fr_ty (f : Fr) : Nat := f.2.2.1.2.2.2
def fr_dt (f : Fr) : Int32 := f.2.2.2.1
def fr_sc (f : Fr) : List (Nat × Nat × Nat) := f.2.2.2.2.1
def fr_sr (f : Fr) : Nat := f.2.2.2.2.2.1
def fr_tg (f : Fr) : Option Nat := f.2.2.2.2.2.2.1
def fr_pl (f : Fr) : Int32 := f.2.2.2.2.2.2.2
/-- the program: kinds, operands, variables of clauses, BLOCKs of RETURNs, numbers, parts, sizes of the functions, their parameters, is-a, depth, fuel -/
abbrev mG : Type := (Nat → Nat) × (Nat → Nat) × (Nat → Nat) × (Nat → Nat) × (Nat → Int32) × (Nat → List Nat) × (Nat → Nat) × (Nat → Nat) × (Nat → Nat → Bool) × Nat × Nat
def gO (g : mG) : Nat → Nat := g.1
def gA (g : mG) : Nat → Nat := g.2.1
def gB (g : mG) : Nat → Nat := g.2.2.1
def gR (g : mG) : Nat → Nat := g.2.2.2.1
def gN (g : mG) : Nat → Int32 := g.2.2.2.2.1
def gK (g : mG) : Nat → List Nat := g.2.2.2.2.2.1
def gC (g : mG) : Nat → Nat := g.2.2.2.2.2.2.1
def gP (g : mG) : Nat → Nat := g.2.2.2.2.2.2.2.1
def gI (g : mG) : Nat → Nat → Bool := g.2.2.2.2.2.2.2.2.1
def gD (g : mG) : Nat := g.2.2.2.2.2.2.2.2.2.1
def gF (g : mG) : Nat := g.2.2.2.2.2.2.2.2.2.2
/-- locals, cells, output, how much was printed, beats, values of the special variables at top -/
abbrev St : Type := (Nat → Int32) × (Nat → Int32) × (Nat → Int32) × Nat × Nat × (Nat → Option Int32)
def sLo (s : St) : Nat → Int32 := s.1
def sCe (s : St) : Nat → Int32 := s.2.1
def sOu (s : St) : Nat → Int32 := s.2.2.1
def sPr (s : St) : Nat := s.2.2.2.1
def sBe (s : St) : Nat := s.2.2.2.2.1
def sGl (s : St) : Nat → Option Int32 := s.2.2.2.2.2
def s_lo (s : St) (a : Nat → Int32) : St := (a, s.2)
def s_ce (s : St) (a : Nat → Int32) : St := (s.1, a, s.2.2)
def s_be (s : St) (b : Nat) : St := (s.1, s.2.1, s.2.2.1, s.2.2.2.1, b, s.2.2.2.2.2)
def s_gl (s : St) (a : Nat → Option Int32) : St := (s.1, s.2.1, s.2.2.1, s.2.2.2.1, s.2.2.2.2.1, a)
def s_pr (s : St) (v : Int32) : St := (s.1, s.2.1, (if s.2.2.2.1 < 24 then upd s.2.2.1 s.2.2.2.1 v else s.2.2.1), s.2.2.2.1 + 1, s.2.2.2.2)
/-- tag, value, target, type, place, frames, store -/
abbrev MS : Type := Nat × Int32 × Option Nat × Nat × Int32 × List Fr × St
def m_ch (g : mG) : List Fr → List (Nat × Nat × Nat)
  | [] => []
  | f :: r => if fr_ph f = 7 then fr_sc f else if fr_ph f = 1 ∧ (gO g (fr_nd f) = 16 ∨ gO g (fr_nd f) = 17) then (r.length, fr_nd f, fr_ev f) :: m_ch g r else m_ch g r
def m_fc : List Fr → Nat
  | [] => 0
  | f :: r => m_fc r + (if fr_ph f = 6 then 1 else 0)
def m_yh : List Fr → Nat
  | [] => 0
  | f :: r => m_yh r + (if fr_ph f = 7 then 0 else if fr_ph f = 4 then 2 else 1)
def m_cur (gl : Nat → Option Int32) (v : Nat) : List Fr → Option Int32
  | [] => gl v
  | f :: r => if fr_bv f = v then some (fr_bx f) else m_cur gl v r
def m_set (v : Nat) (x : Int32) : List Fr → Option (List Fr)
  | [] => none
  | ((nd, ev, ph, rm), (gt, x0, x1, x2), (la, bv, bx, ty), dt, sc, sr, tg, pl) :: r => if bv = v then some (((nd, ev, ph, rm), (gt, x0, x1, x2), (la, bv, x, ty), dt, sc, sr, tg, pl) :: r) else match m_set v x r with
    | some r' => some (((nd, ev, ph, rm), (gt, x0, x1, x2), (la, bv, bx, ty), dt, sc, sr, tg, pl) :: r')
    | none => none
def m_find (p : Fr → Bool) : List Fr → Option Nat
  | [] => none
  | f :: r => if p f then some r.length else m_find p r
def m_sf (g : mG) (t : Nat) : List (Nat × Nat × Nat) → Option ((Nat × Nat × Nat) × List (Nat × Nat × Nat))
  | [] => none
  | c :: r => if gI g t (gA g c.2.1) then some (c, r) else m_sf g t r
def m_dlv (l : List Fr) (v : Int32) (s : St) : MS := match l with
  | [] => (4, v, none, 0, 0, [], s)
  | f :: r => (1, v, none, 0, 0, f :: r, s)
def m_new (g : mG) (n e : Nat) : Fr := ((n, e, (if gO g n = 7 ∨ gO g n = 11 ∨ (16 ≤ gO g n ∧ gO g n ≤ 18) then 1 else 0), (if 16 ≤ gO g n ∧ gO g n ≤ 18 then (gK g n).drop 1 else gK g n)), (0, 0, 0, 0), (0, 0, 0, 0), 0, [], 0, none, 0)
def m_ev (g : mG) (n e : Nat) (l : List Fr) (s : St) : MS :=
  if gO g n = 27 then m_dlv l (gN g n) s
  else if gO g n = 28 then
    (if gA g n < 8 then m_dlv l (sLo s (8 * e + gA g n)) s
    else match m_cur (sGl s) (gA g n) l with
      | some x => m_dlv l x s
      | none => (2, 0, none, 0, 0, ((n, e, 8, []), (0, 0, 0, 0), (0, 0, 0, 4), nI (gA g n), m_ch g l, l.length, none, 0) :: l, s))
  else if gO g n = 10 then (if sBe s < gF g then (0, 0, none, 0, 0, m_new g n e :: l, s_be s (sBe s + 1)) else (6, 0, none, 0, 0, m_new g n e :: l, s))
  else (0, 0, none, 0, 0, m_new g n e :: l, s)
def m_raise (g : mG) (f : Fr) (r : List Fr) (t : Nat) (d : Int32) (s : St) : MS := match f with
  | ((nd, ev, ph, rm), (gt, x0, x1, x2), (la, bv, bx, ty), dt, sc, sr, tg, pl) => (2, 0, none, 0, 0, ((nd, ev, 4, rm), (gt, x0, x1, x2), (la, bv, bx, t), d, m_ch g r, r.length, tg, pl) :: r, s)
def m_lo (s : St) (e k : Nat) (x0 x1 x2 : Int32) : Nat → Int32 := fun j => if 8 * e ≤ j ∧ j < 8 * e + 8 then (if j - 8 * e < k then (if j - 8 * e = 0 then x0 else if j - 8 * e = 1 then x1 else x2) else 0) else sLo s j
def m_apk (g : mG) (f : Fr) (r : List Fr) (s : St) (k : Nat) : MS :=
  match k with
  | 0 => m_dlv r (fr_x0 f + fr_x1 f) s
  | 1 => m_dlv r (fr_x0 f - fr_x1 f) s
  | 2 => m_dlv r (fr_x0 f * fr_x1 f) s
  | 3 => if fr_x1 f = 0 then m_raise g f r 3 (fr_x0 f) s else m_dlv r (fr_x0 f / fr_x1 f) s
  | 4 => m_dlv r (if fr_x1 f ≤ fr_x0 f then 0 else 1) s
  | 5 => m_dlv r (if fr_x0 f = fr_x1 f then 1 else 0) s
  | 8 => if gA g (fr_nd f) < 8 then m_dlv r (fr_x0 f) (s_lo s (upd (sLo s) (8 * fr_ev f + gA g (fr_nd f)) (fr_x0 f)))
    else (match m_set (gA g (fr_nd f)) (fr_x0 f) r with
      | some r' => m_dlv r' (fr_x0 f) s
      | none => m_dlv r (fr_x0 f) (s_gl s (fun v => if v = gA g (fr_nd f) then some (fr_x0 f) else sGl s v)))
  | 12 => (3, fr_x0 f, m_find (fun q => decide (fr_nd q = gR g (fr_nd f) ∧ fr_ev q = fr_ev f)) (f :: r), 0, 0, f :: r, s)
  | 14 => (match m_find (fun q => decide (fr_ph q = 1 ∧ gO g (fr_nd q) = 13 ∧ fr_x0 q = fr_x0 f)) (f :: r) with
    | some h => (3, fr_x1 f, some h, 0, 0, f :: r, s)
    | none => m_raise g f r 5 (fr_x0 f) s)
  | 19 => (match m_find (fun q => decide (fr_ph q = 1 ∧ gO g (fr_nd q) = 18 ∧ gA g (fr_nd q) = gA g (fr_nd f))) (f :: r) with
    | some h => (3, fr_x0 f, some h, 0, 0, f :: r, s)
    | none => m_raise g f r 5 (fr_x0 f) s)
  | 20 => m_raise g f r (gA g (fr_nd f)) (fr_x0 f) s
  | 21 => m_raise g f r (gA g (fr_nd f)) (fr_x0 f) s
  | 22 => m_dlv r (fr_x0 f) (s_pr s (fr_x0 f))
  | 23 => if gC g (gA g (fr_nd f)) = 0 then m_raise g f r 8 (nI (gA g (fr_nd f))) s
    else if gP g (gA g (fr_nd f)) ≠ (gK g (fr_nd f)).length then m_raise g f r 9 (nI (gK g (fr_nd f)).length) s
    else if gD g ≤ m_fc r then m_raise g f r 7 (nI (m_fc r)) s
    else if gF g ≤ sBe s then (6, 0, none, 0, 0, f :: r, s)
    else (match f with
      | ((nd, ev, ph, rm), (gt, x0, x1, x2), (la, bv, bx, ty), dt, sc, sr, tg, pl) => m_ev g (56 * gA g nd) (m_fc r + 1) (((nd, ev, 6, rm), (gt, x0, x1, x2), (la, bv, bx, ty), dt, sc, sr, tg, pl) :: r) (s_lo (s_be s (sBe s + 1)) (m_lo s (m_fc r + 1) (gK g nd).length x0 x1 x2)))
  | 24 => if fr_x0 f < 0 ∨ 16 ≤ fr_x0 f then m_raise g f r 6 (fr_x0 f) s else m_dlv r (sCe s (16 * gA g (fr_nd f) + (fr_x0 f).toNatClampNeg)) s
  | 25 => if fr_x0 f < 0 ∨ 16 ≤ fr_x0 f then m_raise g f r 6 (fr_x0 f) s else m_dlv r (sCe s (16 * gA g (fr_nd f) + (fr_x0 f).toNatClampNeg)) (s_ce s (upd (sCe s) (16 * gA g (fr_nd f) + (fr_x0 f).toNatClampNeg) (m_kb (gA g (fr_nd f)) (sCe s (16 * gA g (fr_nd f) + (fr_x0 f).toNatClampNeg) + fr_x1 f))))
  | 26 => m_dlv r (match m_cur (sGl s) (gA g (fr_nd f)) r with
    | some _ => 1
    | none => 0) s
  | _ => m_dlv r 0 s
def m_app (g : mG) (f : Fr) (r : List Fr) (s : St) : MS := m_apk g f r s (gO g (fr_nd f))
/-- the top frame goes on -/
def m_pro (g : mG) (f : Fr) (r : List Fr) (s : St) : MS := match f with
  | ((nd, ev, ph, rm), (gt, x0, x1, x2), (la, bv, bx, ty), dt, sc, sr, tg, pl) => match rm with
    | c :: cs => m_ev g c ev (((nd, ev, ph, cs), (gt, x0, x1, x2), (la, bv, bx, ty), dt, sc, sr, tg, pl) :: r) s
    | [] => match ph with
      | 0 => m_app g ((nd, ev, ph, []), (gt, x0, x1, x2), (la, bv, bx, ty), dt, sc, sr, tg, pl) r s
      | 1 => if gO g nd = 10 then (if sBe s < gF g then (0, 0, none, 0, 0, m_new g nd ev :: r, s_be s (sBe s + 1)) else (6, 0, none, 0, 0, ((nd, ev, ph, []), (gt, x0, x1, x2), (la, bv, bx, ty), dt, sc, sr, tg, pl) :: r, s)) else m_dlv r la s
      | 2 => m_dlv r x0 s
      | 3 => (3, dt, tg, ty, pl, r, s)
      | _ => m_dlv r la s
/-- the top frame takes a value -/
def m_take (g : mG) (f : Fr) (v : Int32) : Fr := match f with
  | ((nd, ev, ph, rm), (gt, x0, x1, x2), (la, bv, bx, ty), dt, sc, sr, tg, pl) => match ph with
    | 0 => if gO g nd = 6 then ((nd, ev, 1, [(gK g nd).getD (if v = 0 then 2 else 1) 0]), (gt + 1, v, x1, x2), (0, bv, bx, ty), dt, sc, sr, tg, pl)
      else if gO g nd = 10 then ((nd, ev, 1, rm), (gt + 1, x0, x1, x2), (0, bv, bx, ty), dt, sc, sr, tg, pl)
      else if gO g nd = 9 then ((nd, ev, 1, rm), (gt + 1, v, x1, x2), (0, gA g nd, v, ty), dt, sc, sr, tg, pl)
      else if gO g nd = 13 then ((nd, ev, 1, rm), (gt + 1, v, x1, x2), (0, bv, bx, ty), dt, sc, sr, tg, pl)
      else if gO g nd = 15 then ((nd, ev, 2, rm), (gt + 1, v, x1, x2), (la, bv, bx, ty), dt, sc, sr, tg, pl)
      else ((nd, ev, ph, rm), (gt + 1, (if gt = 0 then v else x0), (if gt = 1 then v else x1), (if gt = 2 then v else x2)), (la, bv, bx, ty), dt, sc, sr, tg, pl)
    | _ => ((nd, ev, ph, rm), (gt + 1, x0, x1, x2), (v, bv, bx, ty), dt, sc, sr, tg, pl)
/-- what a clause's variable gets -/
def m_cv (g : mG) (nd : Nat) : Nat := if gB g nd < 8 then 0 else gB g nd
def m_cs (g : mG) (nd ev : Nat) (v : Int32) (s : St) : St := if gB g nd < 8 then s_lo s (upd (sLo s) (8 * ev + gB g nd) v) else s
def m_pla (n : Nat) : Int32 := if 336 ≤ n then nI (n - 336) else nI (n % 56 + 100 * (1 + n / 56))
def m_srch (g : mG) (f : Fr) (r : List Fr) (s : St) : MS := match m_sf g (fr_ty f) (fr_sc f) with
  | none => if gO g (fr_nd f) = 20 then m_dlv r 0 s else (3, fr_dt f, none, fr_ty f, m_pla (fr_nd f), f :: r, s)
  | some ((h, n, e), t) => if gO g n = 17 then (3, fr_dt f, some h, 0, 0, f :: r, s)
    else (match f with
      | ((nd, ev, ph, rm), (gt, x0, x1, x2), (la, bv, bx, ty), dt, sc, sr, tg, pl) => if gF g ≤ sBe s then (6, 0, none, 0, 0, ((nd, ev, ph, rm), (gt, x0, x1, x2), (la, bv, bx, ty), dt, t, h, tg, pl) :: r, s)
      else m_ev g ((gK g n).getD 0 0) e (((n, e, 7, []), (0, 0, 0, 0), (0, m_cv g n, dt, 0), 0, t, 0, none, 0) :: ((nd, ev, ph, rm), (gt, x0, x1, x2), (la, bv, bx, ty), dt, t, h, tg, pl) :: r) (m_cs g n e dt (s_be s (sBe s + 1))))
def m_exit (g : mG) (v : Int32) (tgt : Option Nat) (t : Nat) (p : Int32) (f : Fr) (r : List Fr) (s : St) : MS := match f with
  | ((nd, ev, ph, rm), (gt, x0, x1, x2), (la, bv, bx, ty), dt, sc, sr, tg, pl) =>
    if tgt = some r.length then
      (if gO g nd = 17 ∨ gO g nd = 18 then m_ev g ((gK g nd).getD 0 0) ev (((nd, ev, 5, []), (0, x0, x1, x2), (la, m_cv g nd, v, ty), dt, sc, sr, tg, pl) :: r) (m_cs g nd ev v s)
      else m_dlv r v s)
    else if ph = 0 ∧ gO g nd = 15 then (0, 0, none, 0, 0, ((nd, ev, 3, rm), (1, x0, x1, x2), (la, bv, bx, t), v, sc, sr, tgt, p) :: r, s)
    else (3, v, tgt, t, p, r, s)
def m_step (g : mG) (m : MS) : MS := match m with
  | (0, _, _, _, _, f :: r, s) => m_pro g f r s
  | (1, v, _, _, _, f :: r, s) => if fr_ph f = 4 ∨ fr_ph f = 8 then (2, 0, none, 0, 0, f :: r, s)
    else if fr_ph f = 0 ∧ gO g (fr_nd f) = 10 ∧ v = 0 then m_dlv r 0 s
    else m_pro g (m_take g f v) r s
  | (2, _, _, _, _, f :: r, s) => m_srch g f r s
  | (3, v, tgt, t, p, [], s) => (5, v, tgt, t, p, [], s)
  | (3, v, tgt, t, p, f :: r, s) => m_exit g v tgt t p f r s
  | m => m
