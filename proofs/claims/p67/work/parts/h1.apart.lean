/-! the text's string lies apart from the class's buffer -/
section APT
variable {I : Mem} {K : Kt} {s : Nat} {L : List Nat}
theorem str_apart (W : LW K 0) (l : LA K 100 7 414) (S : StrAt K I s L) (hL : L.length ≤ 450) : (s ≠ 2 ∧ s ≠ 3 ∧ s ≠ 414) ∧ ∀ q, kG K s 0 = some q → q ≠ 2 ∧ q ≠ 3 ∧ q ≠ 414 := by
  have t : LT K 2 := W.2.1.1.1.t
  have o2 := (LT.o t).1
  have l3 : kS K 3 = (101, 500) := (LT.l0 t).1
  have l4 : kS K 414 = (100, 7) := l.1
  obtain ⟨⟨o, -⟩, q, g, lq, -⟩ := S
  have os := o.1
  have lq1 : kS K q = (101, L.length) := lq.1
  refine ⟨⟨?_, ?_, ?_⟩, fun q2 h2 => ?_⟩
  · rintro rfl; rw [os] at o2; exact absurd o2 (by decide)
  · rintro rfl; rw [l3] at os; exact absurd os (by decide)
  · rintro rfl; rw [l4] at os; exact absurd os (by decide)
  · obtain rfl : q = q2 := Option.some.inj (g.symm.trans h2)
    refine ⟨?_, ?_, ?_⟩
    · rintro rfl; rw [lq1] at o2; exact absurd o2 (by show ¬ (101 : Nat) = _; decide)
    · rintro rfl
      rw [l3] at lq1
      have := congrArg Prod.snd lq1
      have h5 : 500 = L.length := this
      omega
    · rintro rfl
      rw [l4] at lq1
      have h5 : (100 : Nat) = 101 := congrArg Prod.fst lq1
      omega
end APT
