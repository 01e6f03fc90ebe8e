/-- is-a, by the parents -/
def fo_ia (p : Nat → Nat) : Nat → Nat → Nat → Bool
  | 0, _, _ => false
  | k + 1, t, a => if t = a then true else if t ≤ a then false else fo_ia p k (p t) a
