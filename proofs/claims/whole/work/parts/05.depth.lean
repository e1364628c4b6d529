/-! calls, by depth -/
def am_code (k : Nat) : am_T := am_codes.getD k []
def am_d : Nat → am_C
  | 0 => fun _ _ _ _ _ _ => False
  | d + 1 => fun k args bc bs M Q => am_wp (am_d d) (am_code k) Q (0, am_pad (am_nl k) (am_ent args), [], bc, bs) M
theorem am_d_cm : ∀ d : Nat, am_cm (am_d d) (am_d d)
  | 0 => fun _ _ _ _ _ _ _ _ h => h
  | d + 1 => fun _ _ _ _ _ _ _ hQ h => am_wp_mono (am_d_cm d) hQ h
theorem am_d_mono (d : Nat) {k : Nat} {a : List Value} {c s : Nat} {M : am_M} {Q Q' : am_Q} (h : am_d d k a c s M Q) (hQ : ∀ r M, Q r M → Q' r M) : am_d d k a c s M Q' := am_d_cm d _ _ _ _ _ _ _ hQ h
/-- a method's body, from its entry on: its code is T, its locals L, up to a stop -/
theorem am_go {d k : Nat} {args : List Value} {bc bs : Nat} {M : am_M} {Q : am_Q} (stop : Nat → Bool) (n : Nat) (h : am_run (am_d d) (am_code k) Q stop (am_wp (am_d d) (am_code k) Q) n (0, am_pad (am_nl k) (am_ent args), [], bc, bs) M) : am_d (d + 1) k args bc bs M Q := am_wp_run (am_d_cm d) stop n h
theorem am_goT {d k : Nat} {args : List Value} {bc bs : Nat} {M : am_M} {Q : am_Q} (T : am_T) (L : List Value) (hT : am_code k = T) (hL : am_pad (am_nl k) (am_ent args) = L) (stop : Nat → Bool) (n : Nat) (h : am_run (am_d d) T Q stop (am_wp (am_d d) T Q) n (0, L, [], bc, bs) M) : am_d (d + 1) k args bc bs M Q := by
  subst hT; subst hL; exact am_wp_run (am_d_cm d) stop n h
