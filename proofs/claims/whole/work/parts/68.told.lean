section LK7
variable {I : Mem} {w m : Nat}
theorem u_parseErrorCode (h : I (w + 1) 2 = I m 10) : ∃ v, f_X9_parseErrorCode I w = some v ∧ f_X10_parseErrorCode I m = some (v, u2 I m 0 0) := by
  refine ⟨I m 10, ?_, ?_⟩
  · unfold f_X9_parseErrorCode
    rw [h]
  · unfold f_X10_parseErrorCode f_X10_told
    rw [pu_so, b1_so, b2_so]
theorem u_parseErrorPosition (h : I (w + 1) 3 = I m 11) : ∃ v, f_X9_parseErrorPosition I w = some v ∧ f_X10_parseErrorPosition I m = some (v, u2 I m 0 0) := by
  refine ⟨I m 11, ?_, ?_⟩
  · unfold f_X9_parseErrorPosition
    rw [h]
  · unfold f_X10_parseErrorPosition f_X10_told
    rw [pu_so, b1_so, b2_so]
theorem u_bufferLength (h : I (w + 1 + 1) 1 = I m 9) : ∃ v, f_X9_bufferLength I w = some v ∧ f_X10_bufferLength I m = some (v, u2 I m 0 0) := by
  refine ⟨I m 9, ?_, ?_⟩
  · unfold f_X9_bufferLength
    rw [h]
  · unfold f_X10_bufferLength f_X10_told
    rw [pu_so, b1_so, b2_so]
theorem u_undoCount (h : I w 8 = I m 7) : ∃ v, f_X9_undoCount I w = some v ∧ f_X10_undoCount I m = some (v, u2 I m 0 0) := by
  refine ⟨I m 7, ?_, ?_⟩
  · unfold f_X9_undoCount
    rw [h]
  · unfold f_X10_undoCount f_X10_told
    rw [pu_so, b1_so, b2_so]
end LK7
