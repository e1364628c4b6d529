set_option maxRecDepth 100000 in
theorem s_within (d : Nat) (v lo hi : Int32) (M : am_M) (Q : am_Q) (h : Q (some (.int (if lo ≤ v ∧ v ≤ hi then 1 else 0))) M) : am_d (d + 1) 88 [.int v, .int lo, .int hi] 0 0 M Q := by
  refine am_goT T_X9_within [.int v, .int lo, .int hi] rfl rfl (fun _ => false) 30 ?_
  refine And.intro (fun c1 => And.intro (Or.inl rfl) ?_) (fun c1 => And.intro (fun c2 => And.intro (Or.inl rfl) ?_) (fun c2 => And.intro (Or.inr rfl) ?_))
  · rw [if_neg (fun q => Int32.not_le.mpr c1 q.1)] at h
    exact h
  · rw [if_neg (fun q => Int32.not_le.mpr c2 q.2)] at h
    exact h
  · rw [if_pos ⟨Int32.not_lt.mp c1, Int32.not_lt.mp c2⟩] at h
    exact h
