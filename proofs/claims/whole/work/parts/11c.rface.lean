def snHd (k n : Nat) (r : RS) : RS := rs_st (rs_fr (rs_ma (rs_fi r (upN (r_fi r) (r_rc r) k)) (upN (r_ma r) (r_rc r) n)) (upN (r_fr r) (r_rc r) (takR r (r_rc r) - r_rc r))) (upN (r_st r) (r_rc r) 0)
theorem hd_S (k n : Nat) (r : RS) : r_S (snHd k n r) = r_S r := by simp only [snHd, rx_S_st, rx_S_fr, rx_S_ma, rx_S_fi]
theorem hd_K (k n : Nat) (r : RS) : r_K (snHd k n r) = r_K r := by simp only [snHd, rx_K_st, rx_K_fr, rx_K_ma, rx_K_fi]
theorem hd_fl (k n : Nat) (r : RS) : r_fl (snHd k n r) = r_fl r := by simp only [snHd, rx_fl_st, rx_fl_fr, rx_fl_ma, rx_fl_fi]
theorem hd_rc (k n : Nat) (r : RS) : r_rc (snHd k n r) = r_rc r := by simp only [snHd, rx_rc_st, rx_rc_fr, rx_rc_ma, rx_rc_fi]
theorem hd_fi (k n : Nat) (r : RS) : r_fi (snHd k n r) = upN (r_fi r) (r_rc r) k := by simp only [snHd, rx_fi_st, rx_fi_fr, rx_fi_ma, rx_fi_fi]
theorem hd_ma (k n : Nat) (r : RS) : r_ma (snHd k n r) = upN (r_ma r) (r_rc r) n := by simp only [snHd, rx_ma_st, rx_ma_fr, rx_ma_ma]
theorem hd_fr (k n : Nat) (r : RS) : r_fr (snHd k n r) = upN (r_fr r) (r_rc r) (takR r (r_rc r) - r_rc r) := by simp only [snHd, rx_fr_st, rx_fr_fr]
theorem hd_st (k n : Nat) (r : RS) : r_st (snHd k n r) = upN (r_st r) (r_rc r) 0 := by simp only [snHd, rx_st_st]
theorem hd_ol (k n : Nat) (r : RS) : r_ol (snHd k n r) = r_ol r := by simp only [snHd, rx_ol_st, rx_ol_fr, rx_ol_ma, rx_ol_fi]
theorem hd_of (k n : Nat) (r : RS) : r_of (snHd k n r) = r_of r := by simp only [snHd, rx_of_st, rx_of_fr, rx_of_ma, rx_of_fi]
theorem hd_op (k n : Nat) (r : RS) : r_op (snHd k n r) = r_op r := by simp only [snHd, rx_op_st, rx_op_fr, rx_op_ma, rx_op_fi]
theorem hd_to (k n : Nat) (r : RS) : r_to (snHd k n r) = r_to r := by simp only [snHd, rx_to_st, rx_to_fr, rx_to_ma, rx_to_fi]
theorem hd_ar (k n : Nat) (r : RS) : r_ar (snHd k n r) = r_ar r := by simp only [snHd, rx_ar_st, rx_ar_fr, rx_ar_ma, rx_ar_fi]
theorem hd_mk (k n : Nat) (r : RS) : r_mk (snHd k n r) = r_mk r := by simp only [snHd, rx_mk_st, rx_mk_fr, rx_mk_ma, rx_mk_fi]
theorem hd_me (k n : Nat) (r : RS) : r_me (snHd k n r) = r_me r := by simp only [snHd, rx_me_st, rx_me_fr, rx_me_ma, rx_me_fi]
def snX (k n : Nat) (r : RS) : RS := rs_ac (rs_rc (rs_ol (snHd k n r) (va_cpy (r_S (snHd k n r)) (r_ol (snHd k n r)) k (takR r (r_rc r) - r_rc r) n)) (r_rc (snHd k n r) + 1)) 0
def snapX (a n : Int32) (r : RS) : Int32 × RS := if r_op r = false then ((-1), r) else if n < nI 1 then ((-1), r) else if nI 8 < n then ((-1), r) else if isV a = false then ((-1), r) else if isV (a + n - nI 1) = false then ((-1), r) else if 40 < takR r (r_rc r) + n.toNatClampNeg + 1 then ((-1), r) else goI (listAll (snL n.toNatClampNeg (n.toNatClampNeg + 4)) (snX a.toNatClampNeg n.toNatClampNeg r))
theorem sx_S (k n : Nat) (r : RS) : r_S (snX k n r) = r_S r := by simp only [snX, rx_S_ac, rx_S_rc, rx_S_ol, hd_S]
theorem sx_K (k n : Nat) (r : RS) : r_K (snX k n r) = r_K r := by simp only [snX, rx_K_ac, rx_K_rc, rx_K_ol, hd_K]
theorem sx_fl (k n : Nat) (r : RS) : r_fl (snX k n r) = r_fl r := by simp only [snX, rx_fl_ac, rx_fl_rc, rx_fl_ol, hd_fl]
theorem sx_rc (k n : Nat) (r : RS) : r_rc (snX k n r) = r_rc r + 1 := by simp only [snX, rx_rc_ac, rx_rc_rc, hd_rc]
theorem sx_fi (k n : Nat) (r : RS) : r_fi (snX k n r) = upN (r_fi r) (r_rc r) k := by simp only [snX, rx_fi_ac, rx_fi_rc, rx_fi_ol, hd_fi]
theorem sx_ma (k n : Nat) (r : RS) : r_ma (snX k n r) = upN (r_ma r) (r_rc r) n := by simp only [snX, rx_ma_ac, rx_ma_rc, rx_ma_ol, hd_ma]
theorem sx_fr (k n : Nat) (r : RS) : r_fr (snX k n r) = upN (r_fr r) (r_rc r) (takR r (r_rc r) - r_rc r) := by simp only [snX, rx_fr_ac, rx_fr_rc, rx_fr_ol, hd_fr]
theorem sx_st (k n : Nat) (r : RS) : r_st (snX k n r) = upN (r_st r) (r_rc r) 0 := by simp only [snX, rx_st_ac, rx_st_rc, rx_st_ol, hd_st]
theorem sx_of (k n : Nat) (r : RS) : r_of (snX k n r) = r_of r := by simp only [snX, rx_of_ac, rx_of_rc, rx_of_ol, hd_of]
theorem sx_op (k n : Nat) (r : RS) : r_op (snX k n r) = r_op r := by simp only [snX, rx_op_ac, rx_op_rc, rx_op_ol, hd_op]
theorem sx_to (k n : Nat) (r : RS) : r_to (snX k n r) = r_to r := by simp only [snX, rx_to_ac, rx_to_rc, rx_to_ol, hd_to]
theorem sx_ar (k n : Nat) (r : RS) : r_ar (snX k n r) = r_ar r := by simp only [snX, rx_ar_ac, rx_ar_rc, rx_ar_ol, hd_ar]
theorem sx_mk (k n : Nat) (r : RS) : r_mk (snX k n r) = r_mk r := by simp only [snX, rx_mk_ac, rx_mk_rc, rx_mk_ol, hd_mk]
theorem sx_me (k n : Nat) (r : RS) : r_me (snX k n r) = r_me r := by simp only [snX, rx_me_ac, rx_me_rc, rx_me_ol, hd_me]
theorem sx_ac (k n : Nat) (r : RS) : r_ac (snX k n r) = 0 := by simp only [snX, rx_ac_ac]
theorem sx_ol (k n : Nat) (r : RS) : r_ol (snX k n r) = va_cpy (r_S r) (r_ol r) k (takR r (r_rc r) - r_rc r) n := by simp only [snX, rx_ol_ac, rx_ol_rc, rx_ol_ol, hd_S, hd_ol]
theorem rs_ol_self (r : RS) : rs_ol r (r_ol r) = r := rfl
theorem snC_in (n k : Nat) : snC n k = 0 ∨ snC n k = 4 ∨ snC n k = 5 := by
  unfold snC
  repeat' split
  all_goals simp
theorem snL_ok (n : Nat) : ∀ i, ∀ x ∈ snL n i, actOK x ∧ x.1 ≠ 7 := by
  intro i
  induction i with
  | zero => intro x h; cases h
  | succ i ih =>
    intro x h
    rcases List.mem_append.mp h with q | q
    · exact ih x q
    · rw [List.mem_singleton.mp q]
      have z := snC_in n (i + 1)
      refine ⟨⟨?_, ?_, ?_⟩, ?_⟩
      · show snC n (i + 1) ≤ 7; omega
      · intro w; have w : snC n (i + 1) = 1 := w; omega
      · intro w; have w : snC n (i + 1) = 2 := w; omega
      · show snC n (i + 1) ≠ 7; omega
def RI (r : RS) : Prop := r_rc r ≤ 20 ∧ r_ar r ≤ 500 ∧ (∀ j, r_st r j ≤ 3) ∧ takR r (r_rc r) ≤ 40 ∧ 2 * r_rc r ≤ takR r (r_rc r) ∧ ∀ q, q < r_rc r → 1 ≤ r_ma r q ∧ r_ma r q ≤ 8 ∧ r_fi r q + r_ma r q ≤ 32 ∧ r_fr r q + r_ma r q ≤ 40
theorem AOK_sn {k n : Nat} {r : RS} (hI : RI r) (hn : n ≤ 8) (hr : r_rc r < 20) : AOK (listAll (snL n (n + 4)) (snX k n r)) := by
  refine AOK_la (sx_ac k n r) (by rw [snL_len]; omega) (by rw [sx_rc]; omega) (by rw [sx_ar]; exact hI.2.1) ?_ (fun x hx => (snL_ok n _ x hx).1) (Or.inl ⟨by rw [sx_rc]; omega, fun x hx => (snL_ok n _ x hx).2⟩)
  intro j
  rw [sx_st]
  unfold upN
  split
  · omega
  · exact hI.2.2.1 j
theorem tlL_ok (f : Nat → Bool) : ∀ i, i ≤ 4 → ∀ x ∈ tlL f i, actOK x ∧ x.1 = 2 := by
  intro i
  induction i with
  | zero => intro _ x h; cases h
  | succ i ih =>
    intro hi x h
    rcases List.mem_append.mp h with q | q
    · exact ih (by omega) x q
    · split at q
      · rw [List.mem_singleton.mp q]
        refine ⟨⟨?_, ?_, ?_⟩, rfl⟩
        · show 2 ≤ 7; omega
        · intro w; have w : (2 : Nat) = 1 := w; omega
        · intro _; show i < 4; omega
      · cases q
theorem clrL_ok (r : RS) : ∀ x ∈ clrL r, actOK x ∧ x.1 ≠ 4 ∧ x.1 ≠ 5 := by
  intro x h
  unfold clrL at h
  split at h
  · cases h
  · simp only [List.mem_cons, List.not_mem_nil, or_false] at h
    rcases h with rfl | rfl | rfl <;> simp [actOK]
theorem clrL_len (r : RS) : (clrL r).length ≤ 3 := by
  unfold clrL
  split <;> simp
theorem act3_ok : actOK (3, 0, 0) := by simp [actOK]
theorem uiL_ok {r : RS} {q : Nat} (h : r_fi r q + r_ma r q ≤ 32) : ∀ i, i ≤ r_ma r q → ∀ x ∈ uiL r q i, actOK x ∧ x.1 = 1 := by
  intro i
  induction i with
  | zero => intro _ x h; cases h
  | succ i ih =>
    intro hi x hx
    rcases List.mem_append.mp hx with z | z
    · exact ih (by omega) x z
    · rw [List.mem_singleton.mp z]
      refine ⟨⟨?_, ?_, ?_⟩, rfl⟩
      · show 1 ≤ 7; omega
      · intro _; show r_fi r q + i < 32; omega
      · intro w; have w : (1 : Nat) = 2 := w; omega
theorem uoL_ok {r : RS} (hI : RI r) : ∀ p, p ≤ r_rc r → ∀ x ∈ uoL r p, actOK x ∧ x.1 = 1 := by
  intro p
  induction p with
  | zero => intro _ x h; cases h
  | succ p ih =>
    intro hp x hx
    rcases List.mem_append.mp hx with z | z
    · exact ih (by omega) x z
    · exact uiL_ok (hI.2.2.2.2.2 _ (by omega)).2.2.1 _ (Nat.le_refl _) x z
theorem undL_ok {r : RS} (hI : RI r) : (undL r).length ≤ 64 ∧ ∀ x ∈ undL r, actOK x ∧ x.1 ≠ 4 ∧ x.1 ≠ 5 := by
  unfold undL
  split
  · exact ⟨Nat.zero_le _, fun x h => by cases h⟩
  · have l1 := uoL_len r (r_rc r) (Nat.le_refl _)
    have l2 := tlL_len (hasL r) 4
    have l3 := clrL_len r
    have l4 := hI.2.2.2.1
    refine ⟨by simp only [List.length_append, List.length_singleton]; omega, fun x h => ?_⟩
    rcases List.mem_append.mp h with h | h
    · rcases List.mem_append.mp h with h | h
      · rcases List.mem_append.mp h with h | h
        · have q := uoL_ok hI _ (Nat.le_refl _) x h
          exact ⟨q.1, by omega, by omega⟩
        · have q := tlL_ok (hasL r) 4 (Nat.le_refl _) x h
          exact ⟨q.1, by omega, by omega⟩
      · rw [List.mem_singleton.mp h]
        exact ⟨act3_ok, by decide, by decide⟩
    · exact clrL_ok r x h
theorem comL_ok (r : RS) : (comL r).length ≤ 64 ∧ ∀ x ∈ comL r, actOK x ∧ x.1 ≠ 4 ∧ x.1 ≠ 5 := by
  unfold comL
  have l2 := tlL_len (r_to r) 4
  have l3 := clrL_len r
  refine ⟨?_, fun x h => ?_⟩
  · simp only [List.length_append]
    split
    · simp only [List.length_nil]; omega
    · simp only [List.length_singleton]; omega
  · rcases List.mem_append.mp h with h | h
    · rcases List.mem_append.mp h with h | h
      · have q := tlL_ok (r_to r) 4 (Nat.le_refl _) x h
        exact ⟨q.1, by omega, by omega⟩
      · split at h
        · cases h
        · rw [List.mem_singleton.mp h]
          exact ⟨act3_ok, by decide, by decide⟩
    · exact clrL_ok r x h
theorem la_clr (xs : List Act) (r : RS) : clrL (listAll xs r) = clrL r := by unfold clrL; rw [la_f_rc]
theorem la_cov (xs : List Act) (r : RS) (k : Nat) : covR (listAll xs r) k = covR r k := by
  unfold covR
  rw [la_f_rc]
  congr 1
  funext q
  unfold covQ
  rw [la_f_fi, la_f_ma]
theorem AOK_und {r : RS} (hI : RI r) : AOK (undR r) := AOK_la rfl (undL_ok hI).1 hI.1 hI.2.1 hI.2.2.1 (fun x hx => ((undL_ok hI).2 x hx).1) (Or.inr (fun x hx => ((undL_ok hI).2 x hx).2))
theorem AOK_com {r : RS} (hI : RI r) : AOK (listAll (comL r) (rs_ac r 0)) := AOK_la rfl (comL_ok r).1 hI.1 hI.2.1 hI.2.2.1 (fun x hx => ((comL_ok r).2 x hx).1) (Or.inr (fun x hx => ((comL_ok r).2 x hx).2))
theorem AOK_sto {r : RS} {k : Nat} {v : Int64} (hI : RI r) (hk : k < 32) : AOK (stoR k v r) := by
  refine AOK_la (xs := [(1, k, v)]) (r := rs_ac (rs_to r (upB (r_to r) (k / 8) true)) 0) rfl (show 1 ≤ 64 by omega) hI.1 hI.2.1 hI.2.2.1 (fun x hx => ?_) (Or.inr (fun x hx => ?_))
  · rw [List.mem_singleton.mp hx]
    refine ⟨?_, ?_, ?_⟩
    · show 1 ≤ 7; omega
    · intro _; exact hk
    · intro w; have w : (1 : Nat) = 2 := w; omega
  · rw [List.mem_singleton.mp hx]
    exact ⟨show (1 : Nat) ≠ 4 by decide, show (1 : Nat) ≠ 5 by decide⟩
theorem AOK_op {r : RS} (h : AOK r) (v : Bool) : AOK (rs_op r v) := h
