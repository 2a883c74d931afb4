theorem undL_congr {r r' : RS} (e1 : r_rc r' = r_rc r) (e2 : r_fi r' = r_fi r) (e3 : r_ma r' = r_ma r) (e4 : r_fr r' = r_fr r) (e5 : r_ol r' = r_ol r) : undL r' = undL r := by
  have a : ∀ q n, uiL r' q n = uiL r q n := by
    intro q n
    induction n with
    | zero => rfl
    | succ n ih => simp only [uiL, ih, e2, e4, e5]
  have b : ∀ p, uoL r' p = uoL r p := by
    intro p
    induction p with
    | zero => rfl
    | succ p ih => simp only [uoL, ih, a, e1, e3]
  have d : hasL r' = hasL r := by
    funext l
    unfold hasL covR
    rw [e1]
    congr 1
    funext z
    congr 1
    funext q
    unfold covQ
    rw [e2, e3]
  unfold undL clrL
  rw [e1, b, d]
theorem f_abort {c : CS} {r : RS} (h : RA c r) : (abortF c).1 = (abortR r).1 ∧ RA (abortF c).2 (abortR r).2 := by
  obtain ⟨hN, ho⟩ := h
  unfold abortF abortR
  rw [ho]
  by_cases z : r_op r = false
  · rw [if_pos z, if_pos z]; exact ⟨rfl, hN, ho⟩
  · rw [if_neg z, if_neg z]
    unfold goI undR
    rw [goF_laop rfl]
    have hR := RN_op false (RN_la (undL r) hN)
    have o2 := go_op (undL r) (rs_op (listAll (undL r) (rs_ac r 0)) false)
    have e0 : r_op (rs_op (listAll (undL r) (rs_ac r 0)) false) = false := rx_op_op _ _
    unfold OpG at o2
    rw [e0] at o2
    have eu : undL (rs_op (listAll (undL r) (rs_ac r 0)) false) = undL r := undL_congr (by rw [rx_rc_op, la_f_rc]; rfl) (by rw [rx_fi_op, la_f_fi]; rfl) (by rw [rx_ma_op, la_f_ma]; rfl) (by rw [rx_fr_op, la_f_fr]; rfl) (by rw [rx_ol_op, la_f_ol]; rfl)
    have hs := sim_undo hR
    rw [eu] at hs
    generalize rs_op (listAll (undL r) (rs_ac r 0)) false = r0 at hs o2 ⊢
    have opw : r_op (goL (undL r) r0).2 = false := by
      cases w : (goL (undL r) r0).1 with
      | true => exact o2.1 w
      | false => exact o2.2 w
    cases w1 : (undoF c).1 with
    | false =>
      rw [if_pos rfl]
      refine ⟨?_, hs.2, ?_⟩
      · show (-2 : Int32) = bRes (goL (undL r) r0).1
        rw [← hs.1, w1]; rfl
      · rw [opw]; exact (undo_op c).2 w1
    | true =>
      rw [if_neg (by decide)]
      refine ⟨?_, RN_cop false hs.2, ?_⟩
      · show nI 0 = bRes (goL (undL r) r0).1
        rw [← hs.1, w1]; rfl
      · rw [opw]; exact cx_op_op _ _
