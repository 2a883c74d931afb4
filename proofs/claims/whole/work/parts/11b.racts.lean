theorem recs_rc (r : RS) : r_rc (recsR r) ≤ r_rc r := by
  unfold recsR
  repeat' split
  all_goals first | (simp only [rx_rc_rc]; omega) | exact Nat.le_refl _
theorem snL_len (n : Nat) : ∀ i, (snL n i).length = i := by
  intro i
  induction i with
  | zero => rfl
  | succ i ih => simp [snL, ih]
theorem tlL_len (f : Nat → Bool) : ∀ i, (tlL f i).length ≤ i := by
  intro i
  induction i with
  | zero => exact Nat.le_refl 0
  | succ i ih =>
    simp only [tlL, List.length_append]
    split
    · simp; omega
    · simp; omega
theorem uiL_len (r : RS) (q : Nat) : ∀ i, (uiL r q i).length = i := by
  intro i
  induction i with
  | zero => rfl
  | succ i ih => simp [uiL, ih]
theorem uoL_len (r : RS) : ∀ p, p ≤ r_rc r → (uoL r p).length + takR r (r_rc r - p) + p ≤ takR r (r_rc r) := by
  intro p
  induction p with
  | zero => intro _; simp [uoL]
  | succ p ih =>
    intro h
    have h1 := ih (by omega)
    have e : r_rc r - p = (r_rc r - (p + 1)) + 1 := by omega
    rw [e] at h1
    simp only [takR] at h1
    simp only [uoL, List.length_append, uiL_len]
    omega
theorem la_keep : ∀ (xs : List Act) (r : RS) (j : Nat), j < r_ac r → r_an (listAll xs r) j = r_an r j ∧ r_on (listAll xs r) j = r_on r j ∧ r_wi (listAll xs r) j = r_wi r j := by
  intro xs
  induction xs with
  | nil => intro r j _; exact ⟨rfl, rfl, rfl⟩
  | cons x xs ih =>
    intro r j hj
    have e : r_ac (listA x.1 x.2.1 x.2.2 r) = r_ac r + 1 := by simp only [listA, rx_ac_ac]
    have q := ih (listA x.1 x.2.1 x.2.2 r) j (by omega)
    have n : j ≠ r_ac r := by omega
    refine ⟨q.1.trans ?_, q.2.1.trans ?_, q.2.2.trans ?_⟩
    · simp only [listA, rx_an_ac, rx_an_wi, rx_an_on, rx_an_an]; exact upN_n _ _ n
    · simp only [listA, rx_on_ac, rx_on_wi, rx_on_on]; exact upN_n _ _ n
    · simp only [listA, rx_wi_ac, rx_wi_wi]; exact pk_uLn n
theorem la_at : ∀ (xs : List Act) (r : RS) (j : Nat) (x : Act), xs[j]? = some x → r_an (listAll xs r) (r_ac r + j) = x.1 ∧ r_on (listAll xs r) (r_ac r + j) = x.2.1 ∧ r_wi (listAll xs r) (r_ac r + j) = x.2.2 := by
  intro xs
  induction xs with
  | nil => intro r j x h; simp at h
  | cons z xs ih =>
    intro r j x h
    have e : r_ac (listA z.1 z.2.1 z.2.2 r) = r_ac r + 1 := by simp only [listA, rx_ac_ac]
    cases j with
    | zero =>
      simp at h
      subst h
      have q := la_keep xs (listA z.1 z.2.1 z.2.2 r) (r_ac r) (by omega)
      refine ⟨q.1.trans ?_, q.2.1.trans ?_, q.2.2.trans ?_⟩
      · simp only [listA, rx_an_ac, rx_an_wi, rx_an_on, rx_an_an]; exact upN_s _ _ _
      · simp only [listA, rx_on_ac, rx_on_wi, rx_on_on]; exact upN_s _ _ _
      · simp only [listA, rx_wi_ac, rx_wi_wi]; exact pk_uLs
    | succ j =>
      have q := ih (listA z.1 z.2.1 z.2.2 r) j x (by simpa using h)
      rw [e, show r_ac r + 1 + j = r_ac r + (j + 1) by omega] at q
      exact q
def actOK (x : Act) : Prop := x.1 ≤ 7 ∧ (x.1 = 1 → x.2.1 < 32) ∧ (x.1 = 2 → x.2.1 < 4)
theorem AOK_la {xs : List Act} {r : RS} (h0 : r_ac r = 0) (hl : xs.length ≤ 64) (hz : r_rc r ≤ 20) (ha : r_ar r ≤ 500) (hst : ∀ j, r_st r j ≤ 3) (hx : ∀ x ∈ xs, actOK x) (h6 : (1 ≤ r_rc r ∧ ∀ x ∈ xs, x.1 ≠ 7) ∨ ∀ x ∈ xs, x.1 ≠ 4 ∧ x.1 ≠ 5) : AOK (listAll xs r) := by
  have at_ : ∀ j, j < r_ac (listAll xs r) → ∃ x ∈ xs, r_an (listAll xs r) j = x.1 ∧ r_on (listAll xs r) j = x.2.1 := by
    intro j hj
    rw [la_f_ac, h0] at hj
    have hj2 : j < xs.length := by omega
    have q := la_at xs r j xs[j] (List.getElem?_eq_getElem hj2)
    rw [h0, Nat.zero_add] at q
    exact ⟨xs[j], List.getElem_mem hj2, q.1, q.2.1⟩
  refine ⟨by rw [la_f_ac]; omega, by rw [la_f_rc]; exact hz, by rw [la_f_ar]; exact ha, by rw [la_f_st]; exact hst, ?_, ?_⟩
  · intro j hj
    obtain ⟨x, hm, e1, e2⟩ := at_ j hj
    rw [e1, e2]
    exact hx x hm
  · rw [la_f_rc]
    rcases h6 with ⟨u, v⟩ | v
    · refine Or.inl ⟨u, fun j hj => ?_⟩
      obtain ⟨x, hm, e1, e2⟩ := at_ j hj
      rw [e1]; exact v x hm
    · refine Or.inr (fun j hj => ?_)
      obtain ⟨x, hm, e1, e2⟩ := at_ j hj
      rw [e1]; exact v x hm
