theorem se_S (c : CS) (w x : Bool) : c_S (settleF c w x) = c_S c := by
  simp only [settleF, cx_S_xo, cx_S_nk]
  repeat' split
  all_goals first | rfl | simp only [cx_S_tk, cx_S_sz]
theorem se_K (c : CS) (w x : Bool) : c_K (settleF c w x) = c_K c := by
  simp only [settleF, cx_K_xo, cx_K_nk]
  repeat' split
  all_goals first | rfl | simp only [cx_K_tk, cx_K_sz]
theorem se_on (c : CS) (w x : Bool) : c_on (settleF c w x) = c_on c := by
  simp only [settleF, cx_on_xo, cx_on_nk]
  repeat' split
  all_goals first | rfl | simp only [cx_on_tk, cx_on_sz]
theorem se_op (c : CS) (w x : Bool) : c_op (settleF c w x) = c_op c := by
  simp only [settleF, cx_op_xo, cx_op_nk]
  repeat' split
  all_goals first | rfl | simp only [cx_op_tk, cx_op_sz]
theorem se_fl (c : CS) (w x : Bool) : c_fl (settleF c w x) = c_fl c := by
  simp only [settleF, cx_fl_xo, cx_fl_nk]
  repeat' split
  all_goals first | rfl | simp only [cx_fl_tk, cx_fl_sz]
theorem se_sl (c : CS) (w x : Bool) : c_sl (settleF c w x) = c_sl c := by
  simp only [settleF, cx_sl_xo, cx_sl_nk]
  repeat' split
  all_goals first | rfl | simp only [cx_sl_tk, cx_sl_sz]
theorem se_au (c : CS) (w x : Bool) : c_au (settleF c w x) = c_au c := by
  simp only [settleF, cx_au_xo, cx_au_nk]
  repeat' split
  all_goals first | rfl | simp only [cx_au_tk, cx_au_sz]
theorem se_mk (c : CS) (w x : Bool) : c_mk (settleF c w x) = c_mk c := by
  simp only [settleF, cx_mk_xo, cx_mk_nk]
  repeat' split
  all_goals first | rfl | simp only [cx_mk_tk, cx_mk_sz]
theorem se_ad (c : CS) (w x : Bool) : c_ad (settleF c w x) = c_ad c := by
  simp only [settleF, cx_ad_xo, cx_ad_nk]
  repeat' split
  all_goals first | rfl | simp only [cx_ad_tk, cx_ad_sz]
theorem se_fi (c : CS) (w x : Bool) : c_fi (settleF c w x) = c_fi c := by
  simp only [settleF, cx_fi_xo, cx_fi_nk]
  repeat' split
  all_goals first | rfl | simp only [cx_fi_tk, cx_fi_sz]
theorem se_co (c : CS) (w x : Bool) : c_co (settleF c w x) = c_co c := by
  simp only [settleF, cx_co_xo, cx_co_nk]
  repeat' split
  all_goals first | rfl | simp only [cx_co_tk, cx_co_sz]
theorem se_sc (c : CS) (w x : Bool) : c_sc (settleF c w x) = c_sc c := by
  simp only [settleF, cx_sc_xo, cx_sc_nk]
  repeat' split
  all_goals first | rfl | simp only [cx_sc_tk, cx_sc_sz]
theorem se_ce (c : CS) (w x : Bool) : c_ce (settleF c w x) = c_ce c := by
  simp only [settleF, cx_ce_xo, cx_ce_nk]
  repeat' split
  all_goals first | rfl | simp only [cx_ce_tk, cx_ce_sz]
theorem se_nk (c : CS) (w x : Bool) : c_nk (settleF c w x) = false := by simp only [settleF, cx_nk_xo, cx_nk_nk]
theorem se_xo (c : CS) (w x : Bool) : c_xo (settleF c w x) = false := by simp only [settleF, cx_xo_xo, cx_xo_nk]
theorem se_sz (c : CS) (w x : Bool) : c_sz (settleF c w x) = if c_xo c = true ∧ x = true then 0 else if c_nk c = true ∧ w = false then c_sz c - 1 else c_sz c := by
  simp only [settleF, cx_sz_xo, cx_sz_nk]
  by_cases h1 : c_nk c = true ∧ w = false <;> by_cases h2 : c_xo c = true ∧ x = true <;> simp only [h1, h2, if_true, if_false, cx_sz_tk, cx_sz_sz, and_self]
theorem se_tk (c : CS) (w x : Bool) : c_tk (settleF c w x) = if c_xo c = true ∧ x = true then 0 else if c_nk c = true ∧ w = false then c_sc c (c_sz c - 1) else c_tk c := by
  simp only [settleF, cx_tk_xo, cx_tk_nk]
  by_cases h1 : c_nk c = true ∧ w = false <;> by_cases h2 : c_xo c = true ∧ x = true <;> simp only [h1, h2, if_true, if_false, cx_tk_tk, and_self]
theorem lo_S (c : CS) : c_S (loseF c) = c_S c := by simp only [loseF, cx_S_fl, cx_S_op, cx_S_on, se_S, cx_S_K]
theorem lo_K (c : CS) : c_K (loseF c) = keepM c 32 := by simp only [loseF, cx_K_fl, cx_K_op, cx_K_on, se_K, cx_K_K]
theorem lo_on (c : CS) : c_on (loseF c) = false := by simp only [loseF, cx_on_fl, cx_on_op, cx_on_on]
theorem lo_op (c : CS) : c_op (loseF c) = false := by simp only [loseF, cx_op_fl, cx_op_op]
theorem lo_fl (c : CS) : c_fl (loseF c) = nI 0 := by simp only [loseF, cx_fl_fl]
theorem lo_sl (c : CS) : c_sl (loseF c) = c_sl c := by simp only [loseF, cx_sl_fl, cx_sl_op, cx_sl_on, se_sl, cx_sl_K]
theorem lo_au (c : CS) : c_au (loseF c) = c_au c := by simp only [loseF, cx_au_fl, cx_au_op, cx_au_on, se_au, cx_au_K]
theorem lo_mk (c : CS) : c_mk (loseF c) = c_mk c := by simp only [loseF, cx_mk_fl, cx_mk_op, cx_mk_on, se_mk, cx_mk_K]
theorem lo_ad (c : CS) : c_ad (loseF c) = c_ad c := by simp only [loseF, cx_ad_fl, cx_ad_op, cx_ad_on, se_ad, cx_ad_K]
theorem lo_fi (c : CS) : c_fi (loseF c) = c_fi c := by simp only [loseF, cx_fi_fl, cx_fi_op, cx_fi_on, se_fi, cx_fi_K]
theorem lo_co (c : CS) : c_co (loseF c) = c_co c := by simp only [loseF, cx_co_fl, cx_co_op, cx_co_on, se_co, cx_co_K]
theorem lo_sc (c : CS) : c_sc (loseF c) = c_sc c := by simp only [loseF, cx_sc_fl, cx_sc_op, cx_sc_on, se_sc, cx_sc_K]
theorem lo_ce (c : CS) : c_ce (loseF c) = c_ce c := by simp only [loseF, cx_ce_fl, cx_ce_op, cx_ce_on, se_ce, cx_ce_K]
theorem lo_sz (c : CS) : c_sz (loseF c) = if c_xo c = true ∧ hbL (c_mk c) 33 = true then 0 else if c_nk c = true ∧ hbL (c_mk c) 32 = false then c_sz c - 1 else c_sz c := by rw [loseF, cx_sz_fl, cx_sz_op, cx_sz_on, se_sz]; rfl
theorem lo_tk (c : CS) : c_tk (loseF c) = if c_xo c = true ∧ hbL (c_mk c) 33 = true then 0 else if c_nk c = true ∧ hbL (c_mk c) 32 = false then c_sc c (c_sz c - 1) else c_tk c := by rw [loseF, cx_tk_fl, cx_tk_op, cx_tk_on, se_tk]; rfl
theorem lo_nk (c : CS) : c_nk (loseF c) = false := by simp only [loseF, cx_nk_fl, cx_nk_op, cx_nk_on, se_nk]
theorem lo_xo (c : CS) : c_xo (loseF c) = false := by simp only [loseF, cx_xo_fl, cx_xo_op, cx_xo_on, se_xo]
theorem rr_S (r : RS) : r_S (recsR r) = r_S r := by
  unfold recsR
  repeat' split
  all_goals first | rfl | simp only [rx_S_rc]
theorem rr_K (r : RS) : r_K (recsR r) = r_K r := by
  unfold recsR
  repeat' split
  all_goals first | rfl | simp only [rx_K_rc]
theorem rr_fl (r : RS) : r_fl (recsR r) = r_fl r := by
  unfold recsR
  repeat' split
  all_goals first | rfl | simp only [rx_fl_rc]
theorem rr_fi (r : RS) : r_fi (recsR r) = r_fi r := by
  unfold recsR
  repeat' split
  all_goals first | rfl | simp only [rx_fi_rc]
theorem rr_ma (r : RS) : r_ma (recsR r) = r_ma r := by
  unfold recsR
  repeat' split
  all_goals first | rfl | simp only [rx_ma_rc]
theorem rr_fr (r : RS) : r_fr (recsR r) = r_fr r := by
  unfold recsR
  repeat' split
  all_goals first | rfl | simp only [rx_fr_rc]
theorem rr_st (r : RS) : r_st (recsR r) = r_st r := by
  unfold recsR
  repeat' split
  all_goals first | rfl | simp only [rx_st_rc]
theorem rr_ol (r : RS) : r_ol (recsR r) = r_ol r := by
  unfold recsR
  repeat' split
  all_goals first | rfl | simp only [rx_ol_rc]
theorem rr_of (r : RS) : r_of (recsR r) = r_of r := by
  unfold recsR
  repeat' split
  all_goals first | rfl | simp only [rx_of_rc]
theorem rr_op (r : RS) : r_op (recsR r) = r_op r := by
  unfold recsR
  repeat' split
  all_goals first | rfl | simp only [rx_op_rc]
theorem rr_to (r : RS) : r_to (recsR r) = r_to r := by
  unfold recsR
  repeat' split
  all_goals first | rfl | simp only [rx_to_rc]
theorem rr_ar (r : RS) : r_ar (recsR r) = r_ar r := by
  unfold recsR
  repeat' split
  all_goals first | rfl | simp only [rx_ar_rc]
theorem rr_mk (r : RS) : r_mk (recsR r) = r_mk r := by
  unfold recsR
  repeat' split
  all_goals first | rfl | simp only [rx_mk_rc]
theorem rr_me (r : RS) : r_me (recsR r) = r_me r := by
  unfold recsR
  repeat' split
  all_goals first | rfl | simp only [rx_me_rc]
theorem rr_ac (r : RS) : r_ac (recsR r) = r_ac r := by
  unfold recsR
  repeat' split
  all_goals first | rfl | simp only [rx_ac_rc]
theorem rr_an (r : RS) : r_an (recsR r) = r_an r := by
  unfold recsR
  repeat' split
  all_goals first | rfl | simp only [rx_an_rc]
theorem rr_on (r : RS) : r_on (recsR r) = r_on r := by
  unfold recsR
  repeat' split
  all_goals first | rfl | simp only [rx_on_rc]
theorem rr_wi (r : RS) : r_wi (recsR r) = r_wi r := by
  unfold recsR
  repeat' split
  all_goals first | rfl | simp only [rx_wi_rc]
theorem rr_rc (r : RS) : r_rc (recsR r) = if ¬ r_rc r = 0 ∧ (r_st r (r_rc r - 1) = 0 ∨ (r_st r (r_rc r - 1) = 1 ∧ hbL (r_mk r) 32 = false)) then (if ¬ r_rc r - 1 = 0 ∧ r_st r 0 = 3 ∧ hbL (r_mk r) 33 = true then 0 else r_rc r - 1) else (if ¬ r_rc r = 0 ∧ r_st r 0 = 3 ∧ hbL (r_mk r) 33 = true then 0 else r_rc r) := by
  unfold recsR
  repeat' split
  all_goals first | rfl | simp only [rx_rc_rc]
theorem fa_S (r : RS) : r_S (failR r) = r_S r := by simp only [failR, failB, rx_S_fl, rx_S_op, rx_S_of, standR, rx_S_st, rr_S, rx_S_K]
theorem fa_K (r : RS) : r_K (failR r) = keepF r 32 := by simp only [failR, failB, rx_K_fl, rx_K_op, rx_K_of, standR, rx_K_st, rr_K, rx_K_K]
theorem fa_fl (r : RS) : r_fl (failR r) = clrB (r_fl r) 4 := by simp only [failR, failB, rx_fl_fl, standR, rx_fl_st, rr_fl, rx_fl_K]
theorem fa_rc (r : RS) : r_rc (failR r) = r_rc (recsR (rs_K r (keepF r 32))) := by simp only [failR, failB, rx_rc_fl, rx_rc_op, rx_rc_of, standR, rx_rc_st]
theorem fa_fi (r : RS) : r_fi (failR r) = r_fi r := by simp only [failR, failB, rx_fi_fl, rx_fi_op, rx_fi_of, standR, rx_fi_st, rr_fi, rx_fi_K]
theorem fa_ma (r : RS) : r_ma (failR r) = r_ma r := by simp only [failR, failB, rx_ma_fl, rx_ma_op, rx_ma_of, standR, rx_ma_st, rr_ma, rx_ma_K]
theorem fa_fr (r : RS) : r_fr (failR r) = r_fr r := by simp only [failR, failB, rx_fr_fl, rx_fr_op, rx_fr_of, standR, rx_fr_st, rr_fr, rx_fr_K]
theorem fa_st (r : RS) : r_st (failR r) = setTo (r_st r) (r_rc (recsR (rs_K r (keepF r 32)))) 2 := by simp only [failR, failB, rx_st_fl, rx_st_op, rx_st_of, standR, rx_st_st, rr_st, rx_st_K]
theorem fa_ol (r : RS) : r_ol (failR r) = r_ol r := by simp only [failR, failB, rx_ol_fl, rx_ol_op, rx_ol_of, standR, rx_ol_st, rr_ol, rx_ol_K]
theorem fa_of (r : RS) : r_of (failR r) = true := by simp only [failR, failB, rx_of_fl, rx_of_op, rx_of_of]
theorem fa_op (r : RS) : r_op (failR r) = false := by simp only [failR, failB, rx_op_fl, rx_op_op]
theorem fa_to (r : RS) : r_to (failR r) = r_to r := by simp only [failR, failB, rx_to_fl, rx_to_op, rx_to_of, standR, rx_to_st, rr_to, rx_to_K]
theorem fa_ar (r : RS) : r_ar (failR r) = r_ar r := by simp only [failR, failB, rx_ar_fl, rx_ar_op, rx_ar_of, standR, rx_ar_st, rr_ar, rx_ar_K]
theorem fa_mk (r : RS) : r_mk (failR r) = r_mk r := by simp only [failR, failB, rx_mk_fl, rx_mk_op, rx_mk_of, standR, rx_mk_st, rr_mk, rx_mk_K]
theorem fa_me (r : RS) : r_me (failR r) = r_me r := by simp only [failR, failB, rx_me_fl, rx_me_op, rx_me_of, standR, rx_me_st, rr_me, rx_me_K]
theorem fa_ac (r : RS) : r_ac (failR r) = r_ac r := by simp only [failR, failB, rx_ac_fl, rx_ac_op, rx_ac_of, standR, rx_ac_st, rr_ac, rx_ac_K]
theorem fa_an (r : RS) : r_an (failR r) = r_an r := by simp only [failR, failB, rx_an_fl, rx_an_op, rx_an_of, standR, rx_an_st, rr_an, rx_an_K]
theorem fa_on (r : RS) : r_on (failR r) = r_on r := by simp only [failR, failB, rx_on_fl, rx_on_op, rx_on_of, standR, rx_on_st, rr_on, rx_on_K]
theorem fa_wi (r : RS) : r_wi (failR r) = r_wi r := by simp only [failR, failB, rx_wi_fl, rx_wi_op, rx_wi_of, standR, rx_wi_st, rr_wi, rx_wi_K]
