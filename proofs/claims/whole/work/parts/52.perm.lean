/-! orders, one after the other -/
def frc {α : Type} (x : Nat) (f : Nat → α) : α := match x with
  | 0 => f 0
  | n + 1 => f (n + 1)
theorem frc_eq {α : Type} (x : Nat) (f : Nat → α) : frc x f = f x := by cases x <;> rfl
def fac : Nat → Nat
  | 0 => 1
  | n + 1 => (n + 1) * fac n
/-- those who have not come, c being the set of those who have -/
def av (N c : Nat) : List Nat := (List.range N).filter (fun p => !bitk c p)
/-- the i-th order in which j can come, behind c -/
def unr (N : Nat) : Nat → Nat → Nat → List Nat
  | 0, _, _ => []
  | j + 1, c, i => frc ((av N c).getD (i / fac j) 0) fun a => frc (c ||| 2 ^ a) fun c' => frc (i % fac j) fun i' => a :: unr N j c' i'
/-- the next order, as the reference finds it -/
def pk (o : Nat → Nat) : Nat → Option Nat
  | 0 => none
  | k + 1 => cond (Nat.blt (o (k + 1)) (o k)) (pk o k) (some k)
def pj (o : Nat → Nat) (x : Nat) : Nat → Nat
  | 0 => 0
  | j + 1 => cond (Nat.blt (o (j + 1)) x) (pj o x j) (j + 1)
def sw (o : Nat → Nat) (a b : Nat) : Nat → Nat := fun i => cond (Nat.beq i b) (o a) (cond (Nat.beq i a) (o b) (o i))
def rv : Nat → (Nat → Nat) → Nat → Nat → (Nat → Nat)
  | 0, o, _, _ => o
  | f + 1, o, a, b => cond (Nat.blt a b) (rv f (sw o a b) (a + 1) (b - 1)) o
def nxO (N : Nat) (o : Nat → Nat) (k : Nat) : Nat → Nat := rv N (sw o k (pj o (o k) (N - 1))) (k + 1) (N - 1)
def eqL : List Nat → List Nat → Bool
  | [], [] => true
  | a :: s, b :: t => Nat.beq a b && eqL s t
  | _, _ => false
theorem eqL_eq : ∀ (s t : List Nat), eqL s t = true → s = t
  | [], [], _ => rfl
  | [], _ :: _, h => absurd (show false = true from h) (by decide)
  | _ :: _, [], h => absurd (show false = true from h) (by decide)
  | a :: s, b :: t, h => by
    unfold eqL at h
    rw [Bool.and_eq_true] at h
    rw [Nat.eq_of_beq_eq_true h.1, eqL_eq s t h.2]
def chkN (N i : Nat) : Bool := match pk (fun k => (unr N N 0 i).getD k 0) (N - 1) with
  | none => Nat.beq (i + 1) (fac N)
  | some k => Nat.blt (i + 1) (fac N) && eqL ((List.range N).map (nxO N (fun k => (unr N N 0 i).getD k 0) k)) (unr N N 0 (i + 1))
theorem chk0 : ∀ n : Nat, n < 5 → ∀ i : Nat, i < fac n → chkN n i = true := by decide +kernel
theorem chk5 : ∀ a : Nat, a < 10 → ∀ b : Nat, b < 12 → chkN 5 (12 * a + b) = true := by decide +kernel
theorem chk6 : ∀ a : Nat, a < 24 → ∀ b : Nat, b < 30 → chkN 6 (30 * a + b) = true := by decide +kernel
theorem chk7 : ∀ a : Nat, a < 70 → ∀ b : Nat, b < 72 → chkN 7 (72 * a + b) = true := by decide +kernel
theorem chkA {n i : Nat} (hn : n ≤ 7) (hi : i < fac n) : chkN n i = true := by
  rcases (show n < 5 ∨ n = 5 ∨ n = 6 ∨ n = 7 by omega) with h | h | h | h
  · exact chk0 n h i hi
  · subst h
    have hi : i < 120 := hi
    have := chk5 (i / 12) (by omega) (i % 12) (by omega)
    rw [show 12 * (i / 12) + i % 12 = i by omega] at this
    exact this
  · subst h
    have hi : i < 720 := hi
    have := chk6 (i / 30) (by omega) (i % 30) (by omega)
    rw [show 30 * (i / 30) + i % 30 = i by omega] at this
    exact this
  · subst h
    have hi : i < 5040 := hi
    have := chk7 (i / 72) (by omega) (i % 72) (by omega)
    rw [show 72 * (i / 72) + i % 72 = i by omega] at this
    exact this
