theorem takR_congr {r r' : RS} (h : r_ma r' = r_ma r) : ∀ n, takR r' n = takR r n := by
  intro n
  induction n with
  | zero => rfl
  | succ n ih => simp only [takR, ih, h]
theorem RI_rec {r : RS} (hI : RI r) : RI (recR r) := by
  obtain ⟨h1, h2, h3, h4, h5, h6⟩ := hI
  have e := takR_congr (r := r) (r' := recR r) rfl
  exact ⟨h1, h2, h3, by rw [e]; exact h4, by rw [e]; exact h5, h6⟩
