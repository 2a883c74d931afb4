theorem RN_recover {c : CS} {r : RS} (h : RN (nI 0) c r) : RN (nI 0) (recA c) (recR r) := by
  obtain ⟨⟨h1, h2, h3, h4, h5, h6, h7⟩, hL, g⟩ := h
  have e := takR_congr (r := r) (r' := recR r) rfl
  refine ⟨⟨fun j hj => ?_, h2, rfl, h4, h5, h6, h7⟩, LG_congr (c := c) (c' := recA c) (r := r) (r' := recR r) rfl rfl rfl rfl rfl rfl rfl rfl hL, g.1, g.2.1.trans (e _).symm, g.2.2⟩
  show va_cpy (c_K c) (c_S c) 0 0 32 j = va_cpy (r_K r) (r_S r) 0 0 32 j
  rw [pk_cpy_in (by omega) (by omega), pk_cpy_in (by omega) (by omega)]
  exact h2 _ (by omega)
theorem f_recover {c : CS} {r : RS} (h : RA c r) : (recoverF c).1 = (recoverR r).1 ∧ RA (recoverF c).2 (recoverR r).2 := by
  obtain ⟨hN, ho⟩ := h
  have hon : c_on c = !(r_of r) := hN.1.2.2.1
  unfold recoverF recoverR
  by_cases z : r_of r = false
  · rw [if_pos (by rw [hon, z]; rfl), if_pos z]; exact ⟨rfl, hN, ho⟩
  · rw [if_neg (by rw [hon, ts_nf z]; decide), if_neg z]
    have hX := RN_recover hN
    unfold goI undR
    rw [goF_la rfl]
    have hR := RN_la (undL (recR r)) hX
    have eu : undL (listAll (undL (recR r)) (rs_ac (recR r) 0)) = undL (recR r) := undL_congr (by rw [la_f_rc, rx_rc_ac]) (by rw [la_f_fi, rx_fi_ac]) (by rw [la_f_ma, rx_ma_ac]) (by rw [la_f_fr, rx_fr_ac]) (by rw [la_f_ol, rx_ol_ac])
    have o2 := go_op (undL (recR r)) (listAll (undL (recR r)) (rs_ac (recR r) 0))
    have e0 : r_op (listAll (undL (recR r)) (rs_ac (recR r) 0)) = r_op r := by rw [la_f_op, rx_op_ac]; rfl
    unfold OpG at o2
    rw [e0] at o2
    have hs := sim_undo hR
    rw [eu] at hs
    generalize listAll (undL (recR r)) (rs_ac (recR r) 0) = r0 at hs o2 ⊢
    have o1 := undo_op (recA c)
    have e1 : c_op (recA c) = c_op c := rfl
    unfold OpF at o1
    rw [e1] at o1
    refine ⟨bRes_eq hs.1, hs.2, ?_⟩
    cases w : (undoF (recA c)).1 with
    | true => rw [o1.1 w, o2.1 (hs.1.symm.trans w)]; exact ho
    | false => rw [o1.2 w, o2.2 (hs.1.symm.trans w)]
