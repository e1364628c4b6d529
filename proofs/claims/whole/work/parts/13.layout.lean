/-! where things lie: cells 0 to 2 the static rows, 3 the script, 4 to 55 the class, 56 to 76 the reference, what is made later behind them -/
def lo_kt : List (List (Nat × Nat)) := [[(1, 6), (1, 6), (1, 6), (1, 0), (15, 0), (10, 0), (0, 40), (0, 7)],
  [(0, 7), (11, 0), (0, 61), (12, 0), (0, 6), (5, 7), (0, 7), (0, 7)],
  [(0, 7), (0, 7), (0, 7), (0, 7), (0, 7), (0, 7), (0, 7), (6, 0)],
  [(0, 7), (0, 7), (6, 0), (0, 7), (0, 7), (8, 0), (0, 7), (0, 0)],
  [(8, 0), (0, 7), (0, 0), (7, 0), (0, 8), (0, 8), (0, 8), (9, 0)],
  [(0, 128), (0, 128), (0, 7), (0, 7), (14, 0), (0, 7), (0, 7), (4, 4)],
  [(13, 0), (0, 60), (13, 0), (0, 60), (13, 0), (0, 60), (13, 0), (0, 60)],
  [(16, 0), (0, 4), (0, 4), (0, 240), (0, 60), (0, 40), (0, 7), (0, 7)],
  [(0, 7), (0, 60), (0, 6), (0, 49), (0, 7), (0, 7), (0, 24), (0, 7)],
  [(0, 7), (2, 49), (3, 7), (0, 7), (0, 7)]]
def lo_k2 (c : Nat) : Nat × Nat := match lo_kt[c / 8]? with
  | some r => match r[c % 8]? with
    | some x => x
    | none => (99, 0)
  | none => (99, 0)
/-- kinds and sizes: w3 is the script's length, g tells of what is made later -/
def lo_sh (w3 : Nat) (g : Nat → Nat × Nat) (c : Nat) : Nat × Nat := match Nat.blt c 77 with
  | true => match Nat.beq c 3 with
    | true => (1, w3)
    | false => lo_k2 c
  | false => g c
def lo_rt (r1 r2 : Nat) : List (List (List (Option Nat))) := [[[], [], [], [], [some 5, some 9, some 11, some 21, some 22, some 23, some 26, some 29, some 32, some 35, some 39, some 44, some 47], [some 6, some 7, some 8], [], []],
  [[], [some 10], [], [some 12, some 13], [], [some 14, some 15, some 16, some 17, some 18, some 19, some 20], [], []],
  [[], [], [], [], [], [], [], [some 5, some 9, some 11, some 24, some 25]],
  [[], [], [some 5, some 9, some 11, some 27, some 28], [], [], [none, none, some 30, none, some r1], [], []],
  [[none, none, some 33, none, some r2], [], [], [some 36, some 37, some 38], [], [], [], [some 40, some 41, some 42, some 43]],
  [[], [], [], [], [some 45, some 46], [], [], [some 48, some 50, some 52, some 54]],
  [[some 49], [], [some 51], [], [some 53], [], [some 55], []],
  [[some 57, some 58, some 59, some 60, none, some 61, none, none, none, some 62, some 63, some 64, some 65, some 66, some 67, some 68, some 69, none, none, none, some 70, some 71, some 72, some 73, some 74, none, none, none, some 75, some 76], [], [], [], [], [], [], []],
  [[], [], [], [], [], [], [], []],
  [[], [], [], [], []]]
/-- references: r1 and r2 are the rows of what each has, of REST and of CHURCHES -/
def lo_rho (r1 r2 : Nat) (c i : Nat) : Option Nat := match Nat.blt c 77 with
  | true => match (lo_rt r1 r2)[c / 8]? with
    | some r => match r[c % 8]? with
      | some x => match x[i]? with
        | some y => y
        | none => none
      | none => none
    | none => none
  | false => none
/-- the memory -/
abbrev lo_M (n w3 : Nat) (g : Nat → Nat × Nat) (σ : Nat → Nat → Int32) (τ : Nat → Nat → Int64) (r1 r2 : Nat) : am_M := (n, lo_sh w3 g, σ, τ, lo_rho r1 r2)
