theorem cx_S_S (c : CS) (v : Nat → Int64) : c_S (cs_S c v) = v := rfl
theorem cx_S_K (c : CS) (v : Nat → Int64) : c_S (cs_K c v) = c_S c := rfl
theorem cx_S_on (c : CS) (v : Bool) : c_S (cs_on c v) = c_S c := rfl
theorem cx_S_op (c : CS) (v : Bool) : c_S (cs_op c v) = c_S c := rfl
theorem cx_S_fl (c : CS) (v : Int32) : c_S (cs_fl c v) = c_S c := rfl
theorem cx_S_sl (c : CS) (v : Int32) : c_S (cs_sl c v) = c_S c := rfl
theorem cx_S_au (c : CS) (v : Nat) : c_S (cs_au c v) = c_S c := rfl
theorem cx_S_mk (c : CS) (v : Int64) : c_S (cs_mk c v) = c_S c := rfl
theorem cx_S_ad (c : CS) (v : Int32) : c_S (cs_ad c v) = c_S c := rfl
theorem cx_S_fi (c : CS) (v : Nat → Nat) : c_S (cs_fi c v) = c_S c := rfl
theorem cx_S_co (c : CS) (v : Nat → Nat) : c_S (cs_co c v) = c_S c := rfl
theorem cx_S_sc (c : CS) (v : Nat → Nat) : c_S (cs_sc c v) = c_S c := rfl
theorem cx_S_ce (c : CS) (v : Nat → Int64) : c_S (cs_ce c v) = c_S c := rfl
theorem cx_S_sz (c : CS) (v : Nat) : c_S (cs_sz c v) = c_S c := rfl
theorem cx_S_tk (c : CS) (v : Nat) : c_S (cs_tk c v) = c_S c := rfl
theorem cx_S_nk (c : CS) (v : Bool) : c_S (cs_nk c v) = c_S c := rfl
theorem cx_S_xo (c : CS) (v : Bool) : c_S (cs_xo c v) = c_S c := rfl
theorem cx_K_S (c : CS) (v : Nat → Int64) : c_K (cs_S c v) = c_K c := rfl
theorem cx_K_K (c : CS) (v : Nat → Int64) : c_K (cs_K c v) = v := rfl
theorem cx_K_on (c : CS) (v : Bool) : c_K (cs_on c v) = c_K c := rfl
theorem cx_K_op (c : CS) (v : Bool) : c_K (cs_op c v) = c_K c := rfl
theorem cx_K_fl (c : CS) (v : Int32) : c_K (cs_fl c v) = c_K c := rfl
theorem cx_K_sl (c : CS) (v : Int32) : c_K (cs_sl c v) = c_K c := rfl
theorem cx_K_au (c : CS) (v : Nat) : c_K (cs_au c v) = c_K c := rfl
theorem cx_K_mk (c : CS) (v : Int64) : c_K (cs_mk c v) = c_K c := rfl
theorem cx_K_ad (c : CS) (v : Int32) : c_K (cs_ad c v) = c_K c := rfl
theorem cx_K_fi (c : CS) (v : Nat → Nat) : c_K (cs_fi c v) = c_K c := rfl
theorem cx_K_co (c : CS) (v : Nat → Nat) : c_K (cs_co c v) = c_K c := rfl
theorem cx_K_sc (c : CS) (v : Nat → Nat) : c_K (cs_sc c v) = c_K c := rfl
theorem cx_K_ce (c : CS) (v : Nat → Int64) : c_K (cs_ce c v) = c_K c := rfl
theorem cx_K_sz (c : CS) (v : Nat) : c_K (cs_sz c v) = c_K c := rfl
theorem cx_K_tk (c : CS) (v : Nat) : c_K (cs_tk c v) = c_K c := rfl
theorem cx_K_nk (c : CS) (v : Bool) : c_K (cs_nk c v) = c_K c := rfl
theorem cx_K_xo (c : CS) (v : Bool) : c_K (cs_xo c v) = c_K c := rfl
theorem cx_on_S (c : CS) (v : Nat → Int64) : c_on (cs_S c v) = c_on c := rfl
theorem cx_on_K (c : CS) (v : Nat → Int64) : c_on (cs_K c v) = c_on c := rfl
theorem cx_on_on (c : CS) (v : Bool) : c_on (cs_on c v) = v := rfl
theorem cx_on_op (c : CS) (v : Bool) : c_on (cs_op c v) = c_on c := rfl
theorem cx_on_fl (c : CS) (v : Int32) : c_on (cs_fl c v) = c_on c := rfl
theorem cx_on_sl (c : CS) (v : Int32) : c_on (cs_sl c v) = c_on c := rfl
theorem cx_on_au (c : CS) (v : Nat) : c_on (cs_au c v) = c_on c := rfl
theorem cx_on_mk (c : CS) (v : Int64) : c_on (cs_mk c v) = c_on c := rfl
theorem cx_on_ad (c : CS) (v : Int32) : c_on (cs_ad c v) = c_on c := rfl
theorem cx_on_fi (c : CS) (v : Nat → Nat) : c_on (cs_fi c v) = c_on c := rfl
theorem cx_on_co (c : CS) (v : Nat → Nat) : c_on (cs_co c v) = c_on c := rfl
theorem cx_on_sc (c : CS) (v : Nat → Nat) : c_on (cs_sc c v) = c_on c := rfl
theorem cx_on_ce (c : CS) (v : Nat → Int64) : c_on (cs_ce c v) = c_on c := rfl
theorem cx_on_sz (c : CS) (v : Nat) : c_on (cs_sz c v) = c_on c := rfl
theorem cx_on_tk (c : CS) (v : Nat) : c_on (cs_tk c v) = c_on c := rfl
theorem cx_on_nk (c : CS) (v : Bool) : c_on (cs_nk c v) = c_on c := rfl
theorem cx_on_xo (c : CS) (v : Bool) : c_on (cs_xo c v) = c_on c := rfl
theorem cx_op_S (c : CS) (v : Nat → Int64) : c_op (cs_S c v) = c_op c := rfl
theorem cx_op_K (c : CS) (v : Nat → Int64) : c_op (cs_K c v) = c_op c := rfl
theorem cx_op_on (c : CS) (v : Bool) : c_op (cs_on c v) = c_op c := rfl
theorem cx_op_op (c : CS) (v : Bool) : c_op (cs_op c v) = v := rfl
theorem cx_op_fl (c : CS) (v : Int32) : c_op (cs_fl c v) = c_op c := rfl
theorem cx_op_sl (c : CS) (v : Int32) : c_op (cs_sl c v) = c_op c := rfl
theorem cx_op_au (c : CS) (v : Nat) : c_op (cs_au c v) = c_op c := rfl
theorem cx_op_mk (c : CS) (v : Int64) : c_op (cs_mk c v) = c_op c := rfl
theorem cx_op_ad (c : CS) (v : Int32) : c_op (cs_ad c v) = c_op c := rfl
theorem cx_op_fi (c : CS) (v : Nat → Nat) : c_op (cs_fi c v) = c_op c := rfl
theorem cx_op_co (c : CS) (v : Nat → Nat) : c_op (cs_co c v) = c_op c := rfl
theorem cx_op_sc (c : CS) (v : Nat → Nat) : c_op (cs_sc c v) = c_op c := rfl
theorem cx_op_ce (c : CS) (v : Nat → Int64) : c_op (cs_ce c v) = c_op c := rfl
theorem cx_op_sz (c : CS) (v : Nat) : c_op (cs_sz c v) = c_op c := rfl
theorem cx_op_tk (c : CS) (v : Nat) : c_op (cs_tk c v) = c_op c := rfl
theorem cx_op_nk (c : CS) (v : Bool) : c_op (cs_nk c v) = c_op c := rfl
theorem cx_op_xo (c : CS) (v : Bool) : c_op (cs_xo c v) = c_op c := rfl
theorem cx_fl_S (c : CS) (v : Nat → Int64) : c_fl (cs_S c v) = c_fl c := rfl
theorem cx_fl_K (c : CS) (v : Nat → Int64) : c_fl (cs_K c v) = c_fl c := rfl
theorem cx_fl_on (c : CS) (v : Bool) : c_fl (cs_on c v) = c_fl c := rfl
theorem cx_fl_op (c : CS) (v : Bool) : c_fl (cs_op c v) = c_fl c := rfl
theorem cx_fl_fl (c : CS) (v : Int32) : c_fl (cs_fl c v) = v := rfl
theorem cx_fl_sl (c : CS) (v : Int32) : c_fl (cs_sl c v) = c_fl c := rfl
theorem cx_fl_au (c : CS) (v : Nat) : c_fl (cs_au c v) = c_fl c := rfl
theorem cx_fl_mk (c : CS) (v : Int64) : c_fl (cs_mk c v) = c_fl c := rfl
theorem cx_fl_ad (c : CS) (v : Int32) : c_fl (cs_ad c v) = c_fl c := rfl
theorem cx_fl_fi (c : CS) (v : Nat → Nat) : c_fl (cs_fi c v) = c_fl c := rfl
theorem cx_fl_co (c : CS) (v : Nat → Nat) : c_fl (cs_co c v) = c_fl c := rfl
theorem cx_fl_sc (c : CS) (v : Nat → Nat) : c_fl (cs_sc c v) = c_fl c := rfl
theorem cx_fl_ce (c : CS) (v : Nat → Int64) : c_fl (cs_ce c v) = c_fl c := rfl
theorem cx_fl_sz (c : CS) (v : Nat) : c_fl (cs_sz c v) = c_fl c := rfl
theorem cx_fl_tk (c : CS) (v : Nat) : c_fl (cs_tk c v) = c_fl c := rfl
theorem cx_fl_nk (c : CS) (v : Bool) : c_fl (cs_nk c v) = c_fl c := rfl
theorem cx_fl_xo (c : CS) (v : Bool) : c_fl (cs_xo c v) = c_fl c := rfl
theorem cx_sl_S (c : CS) (v : Nat → Int64) : c_sl (cs_S c v) = c_sl c := rfl
theorem cx_sl_K (c : CS) (v : Nat → Int64) : c_sl (cs_K c v) = c_sl c := rfl
theorem cx_sl_on (c : CS) (v : Bool) : c_sl (cs_on c v) = c_sl c := rfl
theorem cx_sl_op (c : CS) (v : Bool) : c_sl (cs_op c v) = c_sl c := rfl
theorem cx_sl_fl (c : CS) (v : Int32) : c_sl (cs_fl c v) = c_sl c := rfl
theorem cx_sl_sl (c : CS) (v : Int32) : c_sl (cs_sl c v) = v := rfl
theorem cx_sl_au (c : CS) (v : Nat) : c_sl (cs_au c v) = c_sl c := rfl
theorem cx_sl_mk (c : CS) (v : Int64) : c_sl (cs_mk c v) = c_sl c := rfl
theorem cx_sl_ad (c : CS) (v : Int32) : c_sl (cs_ad c v) = c_sl c := rfl
theorem cx_sl_fi (c : CS) (v : Nat → Nat) : c_sl (cs_fi c v) = c_sl c := rfl
theorem cx_sl_co (c : CS) (v : Nat → Nat) : c_sl (cs_co c v) = c_sl c := rfl
theorem cx_sl_sc (c : CS) (v : Nat → Nat) : c_sl (cs_sc c v) = c_sl c := rfl
theorem cx_sl_ce (c : CS) (v : Nat → Int64) : c_sl (cs_ce c v) = c_sl c := rfl
theorem cx_sl_sz (c : CS) (v : Nat) : c_sl (cs_sz c v) = c_sl c := rfl
theorem cx_sl_tk (c : CS) (v : Nat) : c_sl (cs_tk c v) = c_sl c := rfl
theorem cx_sl_nk (c : CS) (v : Bool) : c_sl (cs_nk c v) = c_sl c := rfl
theorem cx_sl_xo (c : CS) (v : Bool) : c_sl (cs_xo c v) = c_sl c := rfl
theorem cx_au_S (c : CS) (v : Nat → Int64) : c_au (cs_S c v) = c_au c := rfl
theorem cx_au_K (c : CS) (v : Nat → Int64) : c_au (cs_K c v) = c_au c := rfl
theorem cx_au_on (c : CS) (v : Bool) : c_au (cs_on c v) = c_au c := rfl
theorem cx_au_op (c : CS) (v : Bool) : c_au (cs_op c v) = c_au c := rfl
theorem cx_au_fl (c : CS) (v : Int32) : c_au (cs_fl c v) = c_au c := rfl
theorem cx_au_sl (c : CS) (v : Int32) : c_au (cs_sl c v) = c_au c := rfl
theorem cx_au_au (c : CS) (v : Nat) : c_au (cs_au c v) = v := rfl
theorem cx_au_mk (c : CS) (v : Int64) : c_au (cs_mk c v) = c_au c := rfl
theorem cx_au_ad (c : CS) (v : Int32) : c_au (cs_ad c v) = c_au c := rfl
theorem cx_au_fi (c : CS) (v : Nat → Nat) : c_au (cs_fi c v) = c_au c := rfl
theorem cx_au_co (c : CS) (v : Nat → Nat) : c_au (cs_co c v) = c_au c := rfl
theorem cx_au_sc (c : CS) (v : Nat → Nat) : c_au (cs_sc c v) = c_au c := rfl
theorem cx_au_ce (c : CS) (v : Nat → Int64) : c_au (cs_ce c v) = c_au c := rfl
theorem cx_au_sz (c : CS) (v : Nat) : c_au (cs_sz c v) = c_au c := rfl
theorem cx_au_tk (c : CS) (v : Nat) : c_au (cs_tk c v) = c_au c := rfl
theorem cx_au_nk (c : CS) (v : Bool) : c_au (cs_nk c v) = c_au c := rfl
theorem cx_au_xo (c : CS) (v : Bool) : c_au (cs_xo c v) = c_au c := rfl
theorem cx_mk_S (c : CS) (v : Nat → Int64) : c_mk (cs_S c v) = c_mk c := rfl
theorem cx_mk_K (c : CS) (v : Nat → Int64) : c_mk (cs_K c v) = c_mk c := rfl
theorem cx_mk_on (c : CS) (v : Bool) : c_mk (cs_on c v) = c_mk c := rfl
theorem cx_mk_op (c : CS) (v : Bool) : c_mk (cs_op c v) = c_mk c := rfl
theorem cx_mk_fl (c : CS) (v : Int32) : c_mk (cs_fl c v) = c_mk c := rfl
theorem cx_mk_sl (c : CS) (v : Int32) : c_mk (cs_sl c v) = c_mk c := rfl
theorem cx_mk_au (c : CS) (v : Nat) : c_mk (cs_au c v) = c_mk c := rfl
theorem cx_mk_mk (c : CS) (v : Int64) : c_mk (cs_mk c v) = v := rfl
theorem cx_mk_ad (c : CS) (v : Int32) : c_mk (cs_ad c v) = c_mk c := rfl
theorem cx_mk_fi (c : CS) (v : Nat → Nat) : c_mk (cs_fi c v) = c_mk c := rfl
theorem cx_mk_co (c : CS) (v : Nat → Nat) : c_mk (cs_co c v) = c_mk c := rfl
theorem cx_mk_sc (c : CS) (v : Nat → Nat) : c_mk (cs_sc c v) = c_mk c := rfl
theorem cx_mk_ce (c : CS) (v : Nat → Int64) : c_mk (cs_ce c v) = c_mk c := rfl
theorem cx_mk_sz (c : CS) (v : Nat) : c_mk (cs_sz c v) = c_mk c := rfl
theorem cx_mk_tk (c : CS) (v : Nat) : c_mk (cs_tk c v) = c_mk c := rfl
theorem cx_mk_nk (c : CS) (v : Bool) : c_mk (cs_nk c v) = c_mk c := rfl
theorem cx_mk_xo (c : CS) (v : Bool) : c_mk (cs_xo c v) = c_mk c := rfl
theorem cx_ad_S (c : CS) (v : Nat → Int64) : c_ad (cs_S c v) = c_ad c := rfl
theorem cx_ad_K (c : CS) (v : Nat → Int64) : c_ad (cs_K c v) = c_ad c := rfl
theorem cx_ad_on (c : CS) (v : Bool) : c_ad (cs_on c v) = c_ad c := rfl
theorem cx_ad_op (c : CS) (v : Bool) : c_ad (cs_op c v) = c_ad c := rfl
theorem cx_ad_fl (c : CS) (v : Int32) : c_ad (cs_fl c v) = c_ad c := rfl
theorem cx_ad_sl (c : CS) (v : Int32) : c_ad (cs_sl c v) = c_ad c := rfl
theorem cx_ad_au (c : CS) (v : Nat) : c_ad (cs_au c v) = c_ad c := rfl
theorem cx_ad_mk (c : CS) (v : Int64) : c_ad (cs_mk c v) = c_ad c := rfl
theorem cx_ad_ad (c : CS) (v : Int32) : c_ad (cs_ad c v) = v := rfl
theorem cx_ad_fi (c : CS) (v : Nat → Nat) : c_ad (cs_fi c v) = c_ad c := rfl
theorem cx_ad_co (c : CS) (v : Nat → Nat) : c_ad (cs_co c v) = c_ad c := rfl
theorem cx_ad_sc (c : CS) (v : Nat → Nat) : c_ad (cs_sc c v) = c_ad c := rfl
theorem cx_ad_ce (c : CS) (v : Nat → Int64) : c_ad (cs_ce c v) = c_ad c := rfl
theorem cx_ad_sz (c : CS) (v : Nat) : c_ad (cs_sz c v) = c_ad c := rfl
theorem cx_ad_tk (c : CS) (v : Nat) : c_ad (cs_tk c v) = c_ad c := rfl
theorem cx_ad_nk (c : CS) (v : Bool) : c_ad (cs_nk c v) = c_ad c := rfl
theorem cx_ad_xo (c : CS) (v : Bool) : c_ad (cs_xo c v) = c_ad c := rfl
theorem cx_fi_S (c : CS) (v : Nat → Int64) : c_fi (cs_S c v) = c_fi c := rfl
theorem cx_fi_K (c : CS) (v : Nat → Int64) : c_fi (cs_K c v) = c_fi c := rfl
theorem cx_fi_on (c : CS) (v : Bool) : c_fi (cs_on c v) = c_fi c := rfl
theorem cx_fi_op (c : CS) (v : Bool) : c_fi (cs_op c v) = c_fi c := rfl
theorem cx_fi_fl (c : CS) (v : Int32) : c_fi (cs_fl c v) = c_fi c := rfl
theorem cx_fi_sl (c : CS) (v : Int32) : c_fi (cs_sl c v) = c_fi c := rfl
theorem cx_fi_au (c : CS) (v : Nat) : c_fi (cs_au c v) = c_fi c := rfl
theorem cx_fi_mk (c : CS) (v : Int64) : c_fi (cs_mk c v) = c_fi c := rfl
theorem cx_fi_ad (c : CS) (v : Int32) : c_fi (cs_ad c v) = c_fi c := rfl
theorem cx_fi_fi (c : CS) (v : Nat → Nat) : c_fi (cs_fi c v) = v := rfl
theorem cx_fi_co (c : CS) (v : Nat → Nat) : c_fi (cs_co c v) = c_fi c := rfl
theorem cx_fi_sc (c : CS) (v : Nat → Nat) : c_fi (cs_sc c v) = c_fi c := rfl
theorem cx_fi_ce (c : CS) (v : Nat → Int64) : c_fi (cs_ce c v) = c_fi c := rfl
theorem cx_fi_sz (c : CS) (v : Nat) : c_fi (cs_sz c v) = c_fi c := rfl
theorem cx_fi_tk (c : CS) (v : Nat) : c_fi (cs_tk c v) = c_fi c := rfl
theorem cx_fi_nk (c : CS) (v : Bool) : c_fi (cs_nk c v) = c_fi c := rfl
theorem cx_fi_xo (c : CS) (v : Bool) : c_fi (cs_xo c v) = c_fi c := rfl
theorem cx_co_S (c : CS) (v : Nat → Int64) : c_co (cs_S c v) = c_co c := rfl
theorem cx_co_K (c : CS) (v : Nat → Int64) : c_co (cs_K c v) = c_co c := rfl
theorem cx_co_on (c : CS) (v : Bool) : c_co (cs_on c v) = c_co c := rfl
theorem cx_co_op (c : CS) (v : Bool) : c_co (cs_op c v) = c_co c := rfl
theorem cx_co_fl (c : CS) (v : Int32) : c_co (cs_fl c v) = c_co c := rfl
theorem cx_co_sl (c : CS) (v : Int32) : c_co (cs_sl c v) = c_co c := rfl
theorem cx_co_au (c : CS) (v : Nat) : c_co (cs_au c v) = c_co c := rfl
theorem cx_co_mk (c : CS) (v : Int64) : c_co (cs_mk c v) = c_co c := rfl
theorem cx_co_ad (c : CS) (v : Int32) : c_co (cs_ad c v) = c_co c := rfl
theorem cx_co_fi (c : CS) (v : Nat → Nat) : c_co (cs_fi c v) = c_co c := rfl
theorem cx_co_co (c : CS) (v : Nat → Nat) : c_co (cs_co c v) = v := rfl
theorem cx_co_sc (c : CS) (v : Nat → Nat) : c_co (cs_sc c v) = c_co c := rfl
theorem cx_co_ce (c : CS) (v : Nat → Int64) : c_co (cs_ce c v) = c_co c := rfl
theorem cx_co_sz (c : CS) (v : Nat) : c_co (cs_sz c v) = c_co c := rfl
theorem cx_co_tk (c : CS) (v : Nat) : c_co (cs_tk c v) = c_co c := rfl
theorem cx_co_nk (c : CS) (v : Bool) : c_co (cs_nk c v) = c_co c := rfl
theorem cx_co_xo (c : CS) (v : Bool) : c_co (cs_xo c v) = c_co c := rfl
theorem cx_sc_S (c : CS) (v : Nat → Int64) : c_sc (cs_S c v) = c_sc c := rfl
theorem cx_sc_K (c : CS) (v : Nat → Int64) : c_sc (cs_K c v) = c_sc c := rfl
theorem cx_sc_on (c : CS) (v : Bool) : c_sc (cs_on c v) = c_sc c := rfl
theorem cx_sc_op (c : CS) (v : Bool) : c_sc (cs_op c v) = c_sc c := rfl
theorem cx_sc_fl (c : CS) (v : Int32) : c_sc (cs_fl c v) = c_sc c := rfl
theorem cx_sc_sl (c : CS) (v : Int32) : c_sc (cs_sl c v) = c_sc c := rfl
theorem cx_sc_au (c : CS) (v : Nat) : c_sc (cs_au c v) = c_sc c := rfl
theorem cx_sc_mk (c : CS) (v : Int64) : c_sc (cs_mk c v) = c_sc c := rfl
theorem cx_sc_ad (c : CS) (v : Int32) : c_sc (cs_ad c v) = c_sc c := rfl
theorem cx_sc_fi (c : CS) (v : Nat → Nat) : c_sc (cs_fi c v) = c_sc c := rfl
theorem cx_sc_co (c : CS) (v : Nat → Nat) : c_sc (cs_co c v) = c_sc c := rfl
theorem cx_sc_sc (c : CS) (v : Nat → Nat) : c_sc (cs_sc c v) = v := rfl
theorem cx_sc_ce (c : CS) (v : Nat → Int64) : c_sc (cs_ce c v) = c_sc c := rfl
theorem cx_sc_sz (c : CS) (v : Nat) : c_sc (cs_sz c v) = c_sc c := rfl
theorem cx_sc_tk (c : CS) (v : Nat) : c_sc (cs_tk c v) = c_sc c := rfl
theorem cx_sc_nk (c : CS) (v : Bool) : c_sc (cs_nk c v) = c_sc c := rfl
theorem cx_sc_xo (c : CS) (v : Bool) : c_sc (cs_xo c v) = c_sc c := rfl
theorem cx_ce_S (c : CS) (v : Nat → Int64) : c_ce (cs_S c v) = c_ce c := rfl
theorem cx_ce_K (c : CS) (v : Nat → Int64) : c_ce (cs_K c v) = c_ce c := rfl
theorem cx_ce_on (c : CS) (v : Bool) : c_ce (cs_on c v) = c_ce c := rfl
theorem cx_ce_op (c : CS) (v : Bool) : c_ce (cs_op c v) = c_ce c := rfl
theorem cx_ce_fl (c : CS) (v : Int32) : c_ce (cs_fl c v) = c_ce c := rfl
theorem cx_ce_sl (c : CS) (v : Int32) : c_ce (cs_sl c v) = c_ce c := rfl
theorem cx_ce_au (c : CS) (v : Nat) : c_ce (cs_au c v) = c_ce c := rfl
theorem cx_ce_mk (c : CS) (v : Int64) : c_ce (cs_mk c v) = c_ce c := rfl
theorem cx_ce_ad (c : CS) (v : Int32) : c_ce (cs_ad c v) = c_ce c := rfl
theorem cx_ce_fi (c : CS) (v : Nat → Nat) : c_ce (cs_fi c v) = c_ce c := rfl
theorem cx_ce_co (c : CS) (v : Nat → Nat) : c_ce (cs_co c v) = c_ce c := rfl
theorem cx_ce_sc (c : CS) (v : Nat → Nat) : c_ce (cs_sc c v) = c_ce c := rfl
theorem cx_ce_ce (c : CS) (v : Nat → Int64) : c_ce (cs_ce c v) = v := rfl
theorem cx_ce_sz (c : CS) (v : Nat) : c_ce (cs_sz c v) = c_ce c := rfl
theorem cx_ce_tk (c : CS) (v : Nat) : c_ce (cs_tk c v) = c_ce c := rfl
theorem cx_ce_nk (c : CS) (v : Bool) : c_ce (cs_nk c v) = c_ce c := rfl
theorem cx_ce_xo (c : CS) (v : Bool) : c_ce (cs_xo c v) = c_ce c := rfl
theorem cx_sz_S (c : CS) (v : Nat → Int64) : c_sz (cs_S c v) = c_sz c := rfl
theorem cx_sz_K (c : CS) (v : Nat → Int64) : c_sz (cs_K c v) = c_sz c := rfl
theorem cx_sz_on (c : CS) (v : Bool) : c_sz (cs_on c v) = c_sz c := rfl
theorem cx_sz_op (c : CS) (v : Bool) : c_sz (cs_op c v) = c_sz c := rfl
theorem cx_sz_fl (c : CS) (v : Int32) : c_sz (cs_fl c v) = c_sz c := rfl
theorem cx_sz_sl (c : CS) (v : Int32) : c_sz (cs_sl c v) = c_sz c := rfl
theorem cx_sz_au (c : CS) (v : Nat) : c_sz (cs_au c v) = c_sz c := rfl
theorem cx_sz_mk (c : CS) (v : Int64) : c_sz (cs_mk c v) = c_sz c := rfl
theorem cx_sz_ad (c : CS) (v : Int32) : c_sz (cs_ad c v) = c_sz c := rfl
theorem cx_sz_fi (c : CS) (v : Nat → Nat) : c_sz (cs_fi c v) = c_sz c := rfl
theorem cx_sz_co (c : CS) (v : Nat → Nat) : c_sz (cs_co c v) = c_sz c := rfl
theorem cx_sz_sc (c : CS) (v : Nat → Nat) : c_sz (cs_sc c v) = c_sz c := rfl
theorem cx_sz_ce (c : CS) (v : Nat → Int64) : c_sz (cs_ce c v) = c_sz c := rfl
theorem cx_sz_sz (c : CS) (v : Nat) : c_sz (cs_sz c v) = v := rfl
theorem cx_sz_tk (c : CS) (v : Nat) : c_sz (cs_tk c v) = c_sz c := rfl
theorem cx_sz_nk (c : CS) (v : Bool) : c_sz (cs_nk c v) = c_sz c := rfl
theorem cx_sz_xo (c : CS) (v : Bool) : c_sz (cs_xo c v) = c_sz c := rfl
theorem cx_tk_S (c : CS) (v : Nat → Int64) : c_tk (cs_S c v) = c_tk c := rfl
theorem cx_tk_K (c : CS) (v : Nat → Int64) : c_tk (cs_K c v) = c_tk c := rfl
theorem cx_tk_on (c : CS) (v : Bool) : c_tk (cs_on c v) = c_tk c := rfl
theorem cx_tk_op (c : CS) (v : Bool) : c_tk (cs_op c v) = c_tk c := rfl
theorem cx_tk_fl (c : CS) (v : Int32) : c_tk (cs_fl c v) = c_tk c := rfl
theorem cx_tk_sl (c : CS) (v : Int32) : c_tk (cs_sl c v) = c_tk c := rfl
theorem cx_tk_au (c : CS) (v : Nat) : c_tk (cs_au c v) = c_tk c := rfl
theorem cx_tk_mk (c : CS) (v : Int64) : c_tk (cs_mk c v) = c_tk c := rfl
theorem cx_tk_ad (c : CS) (v : Int32) : c_tk (cs_ad c v) = c_tk c := rfl
theorem cx_tk_fi (c : CS) (v : Nat → Nat) : c_tk (cs_fi c v) = c_tk c := rfl
theorem cx_tk_co (c : CS) (v : Nat → Nat) : c_tk (cs_co c v) = c_tk c := rfl
theorem cx_tk_sc (c : CS) (v : Nat → Nat) : c_tk (cs_sc c v) = c_tk c := rfl
theorem cx_tk_ce (c : CS) (v : Nat → Int64) : c_tk (cs_ce c v) = c_tk c := rfl
theorem cx_tk_sz (c : CS) (v : Nat) : c_tk (cs_sz c v) = c_tk c := rfl
theorem cx_tk_tk (c : CS) (v : Nat) : c_tk (cs_tk c v) = v := rfl
theorem cx_tk_nk (c : CS) (v : Bool) : c_tk (cs_nk c v) = c_tk c := rfl
theorem cx_tk_xo (c : CS) (v : Bool) : c_tk (cs_xo c v) = c_tk c := rfl
theorem cx_nk_S (c : CS) (v : Nat → Int64) : c_nk (cs_S c v) = c_nk c := rfl
theorem cx_nk_K (c : CS) (v : Nat → Int64) : c_nk (cs_K c v) = c_nk c := rfl
theorem cx_nk_on (c : CS) (v : Bool) : c_nk (cs_on c v) = c_nk c := rfl
theorem cx_nk_op (c : CS) (v : Bool) : c_nk (cs_op c v) = c_nk c := rfl
theorem cx_nk_fl (c : CS) (v : Int32) : c_nk (cs_fl c v) = c_nk c := rfl
theorem cx_nk_sl (c : CS) (v : Int32) : c_nk (cs_sl c v) = c_nk c := rfl
theorem cx_nk_au (c : CS) (v : Nat) : c_nk (cs_au c v) = c_nk c := rfl
theorem cx_nk_mk (c : CS) (v : Int64) : c_nk (cs_mk c v) = c_nk c := rfl
theorem cx_nk_ad (c : CS) (v : Int32) : c_nk (cs_ad c v) = c_nk c := rfl
theorem cx_nk_fi (c : CS) (v : Nat → Nat) : c_nk (cs_fi c v) = c_nk c := rfl
theorem cx_nk_co (c : CS) (v : Nat → Nat) : c_nk (cs_co c v) = c_nk c := rfl
theorem cx_nk_sc (c : CS) (v : Nat → Nat) : c_nk (cs_sc c v) = c_nk c := rfl
theorem cx_nk_ce (c : CS) (v : Nat → Int64) : c_nk (cs_ce c v) = c_nk c := rfl
theorem cx_nk_sz (c : CS) (v : Nat) : c_nk (cs_sz c v) = c_nk c := rfl
theorem cx_nk_tk (c : CS) (v : Nat) : c_nk (cs_tk c v) = c_nk c := rfl
theorem cx_nk_nk (c : CS) (v : Bool) : c_nk (cs_nk c v) = v := rfl
theorem cx_nk_xo (c : CS) (v : Bool) : c_nk (cs_xo c v) = c_nk c := rfl
theorem cx_xo_S (c : CS) (v : Nat → Int64) : c_xo (cs_S c v) = c_xo c := rfl
theorem cx_xo_K (c : CS) (v : Nat → Int64) : c_xo (cs_K c v) = c_xo c := rfl
theorem cx_xo_on (c : CS) (v : Bool) : c_xo (cs_on c v) = c_xo c := rfl
theorem cx_xo_op (c : CS) (v : Bool) : c_xo (cs_op c v) = c_xo c := rfl
theorem cx_xo_fl (c : CS) (v : Int32) : c_xo (cs_fl c v) = c_xo c := rfl
theorem cx_xo_sl (c : CS) (v : Int32) : c_xo (cs_sl c v) = c_xo c := rfl
theorem cx_xo_au (c : CS) (v : Nat) : c_xo (cs_au c v) = c_xo c := rfl
theorem cx_xo_mk (c : CS) (v : Int64) : c_xo (cs_mk c v) = c_xo c := rfl
theorem cx_xo_ad (c : CS) (v : Int32) : c_xo (cs_ad c v) = c_xo c := rfl
theorem cx_xo_fi (c : CS) (v : Nat → Nat) : c_xo (cs_fi c v) = c_xo c := rfl
theorem cx_xo_co (c : CS) (v : Nat → Nat) : c_xo (cs_co c v) = c_xo c := rfl
theorem cx_xo_sc (c : CS) (v : Nat → Nat) : c_xo (cs_sc c v) = c_xo c := rfl
theorem cx_xo_ce (c : CS) (v : Nat → Int64) : c_xo (cs_ce c v) = c_xo c := rfl
theorem cx_xo_sz (c : CS) (v : Nat) : c_xo (cs_sz c v) = c_xo c := rfl
theorem cx_xo_tk (c : CS) (v : Nat) : c_xo (cs_tk c v) = c_xo c := rfl
theorem cx_xo_nk (c : CS) (v : Bool) : c_xo (cs_nk c v) = c_xo c := rfl
theorem cx_xo_xo (c : CS) (v : Bool) : c_xo (cs_xo c v) = v := rfl
theorem rx_S_S (c : RS) (v : Nat → Int64) : r_S (rs_S c v) = v := rfl
theorem rx_S_K (c : RS) (v : Nat → Int64) : r_S (rs_K c v) = r_S c := rfl
theorem rx_S_fl (c : RS) (v : Nat → Bool) : r_S (rs_fl c v) = r_S c := rfl
theorem rx_S_rc (c : RS) (v : Nat) : r_S (rs_rc c v) = r_S c := rfl
theorem rx_S_fi (c : RS) (v : Nat → Nat) : r_S (rs_fi c v) = r_S c := rfl
theorem rx_S_ma (c : RS) (v : Nat → Nat) : r_S (rs_ma c v) = r_S c := rfl
theorem rx_S_fr (c : RS) (v : Nat → Nat) : r_S (rs_fr c v) = r_S c := rfl
theorem rx_S_st (c : RS) (v : Nat → Nat) : r_S (rs_st c v) = r_S c := rfl
theorem rx_S_ol (c : RS) (v : Nat → Int64) : r_S (rs_ol c v) = r_S c := rfl
theorem rx_S_of (c : RS) (v : Bool) : r_S (rs_of c v) = r_S c := rfl
theorem rx_S_op (c : RS) (v : Bool) : r_S (rs_op c v) = r_S c := rfl
theorem rx_S_to (c : RS) (v : Nat → Bool) : r_S (rs_to c v) = r_S c := rfl
theorem rx_S_ar (c : RS) (v : Nat) : r_S (rs_ar c v) = r_S c := rfl
theorem rx_S_mk (c : RS) (v : Int64) : r_S (rs_mk c v) = r_S c := rfl
theorem rx_S_me (c : RS) (v : Int32) : r_S (rs_me c v) = r_S c := rfl
theorem rx_S_ac (c : RS) (v : Nat) : r_S (rs_ac c v) = r_S c := rfl
theorem rx_S_an (c : RS) (v : Nat → Nat) : r_S (rs_an c v) = r_S c := rfl
theorem rx_S_on (c : RS) (v : Nat → Nat) : r_S (rs_on c v) = r_S c := rfl
theorem rx_S_wi (c : RS) (v : Nat → Int64) : r_S (rs_wi c v) = r_S c := rfl
theorem rx_K_S (c : RS) (v : Nat → Int64) : r_K (rs_S c v) = r_K c := rfl
theorem rx_K_K (c : RS) (v : Nat → Int64) : r_K (rs_K c v) = v := rfl
theorem rx_K_fl (c : RS) (v : Nat → Bool) : r_K (rs_fl c v) = r_K c := rfl
theorem rx_K_rc (c : RS) (v : Nat) : r_K (rs_rc c v) = r_K c := rfl
theorem rx_K_fi (c : RS) (v : Nat → Nat) : r_K (rs_fi c v) = r_K c := rfl
theorem rx_K_ma (c : RS) (v : Nat → Nat) : r_K (rs_ma c v) = r_K c := rfl
theorem rx_K_fr (c : RS) (v : Nat → Nat) : r_K (rs_fr c v) = r_K c := rfl
theorem rx_K_st (c : RS) (v : Nat → Nat) : r_K (rs_st c v) = r_K c := rfl
theorem rx_K_ol (c : RS) (v : Nat → Int64) : r_K (rs_ol c v) = r_K c := rfl
theorem rx_K_of (c : RS) (v : Bool) : r_K (rs_of c v) = r_K c := rfl
theorem rx_K_op (c : RS) (v : Bool) : r_K (rs_op c v) = r_K c := rfl
theorem rx_K_to (c : RS) (v : Nat → Bool) : r_K (rs_to c v) = r_K c := rfl
theorem rx_K_ar (c : RS) (v : Nat) : r_K (rs_ar c v) = r_K c := rfl
theorem rx_K_mk (c : RS) (v : Int64) : r_K (rs_mk c v) = r_K c := rfl
theorem rx_K_me (c : RS) (v : Int32) : r_K (rs_me c v) = r_K c := rfl
theorem rx_K_ac (c : RS) (v : Nat) : r_K (rs_ac c v) = r_K c := rfl
theorem rx_K_an (c : RS) (v : Nat → Nat) : r_K (rs_an c v) = r_K c := rfl
theorem rx_K_on (c : RS) (v : Nat → Nat) : r_K (rs_on c v) = r_K c := rfl
theorem rx_K_wi (c : RS) (v : Nat → Int64) : r_K (rs_wi c v) = r_K c := rfl
theorem rx_fl_S (c : RS) (v : Nat → Int64) : r_fl (rs_S c v) = r_fl c := rfl
theorem rx_fl_K (c : RS) (v : Nat → Int64) : r_fl (rs_K c v) = r_fl c := rfl
theorem rx_fl_fl (c : RS) (v : Nat → Bool) : r_fl (rs_fl c v) = v := rfl
theorem rx_fl_rc (c : RS) (v : Nat) : r_fl (rs_rc c v) = r_fl c := rfl
theorem rx_fl_fi (c : RS) (v : Nat → Nat) : r_fl (rs_fi c v) = r_fl c := rfl
theorem rx_fl_ma (c : RS) (v : Nat → Nat) : r_fl (rs_ma c v) = r_fl c := rfl
theorem rx_fl_fr (c : RS) (v : Nat → Nat) : r_fl (rs_fr c v) = r_fl c := rfl
theorem rx_fl_st (c : RS) (v : Nat → Nat) : r_fl (rs_st c v) = r_fl c := rfl
theorem rx_fl_ol (c : RS) (v : Nat → Int64) : r_fl (rs_ol c v) = r_fl c := rfl
theorem rx_fl_of (c : RS) (v : Bool) : r_fl (rs_of c v) = r_fl c := rfl
theorem rx_fl_op (c : RS) (v : Bool) : r_fl (rs_op c v) = r_fl c := rfl
theorem rx_fl_to (c : RS) (v : Nat → Bool) : r_fl (rs_to c v) = r_fl c := rfl
theorem rx_fl_ar (c : RS) (v : Nat) : r_fl (rs_ar c v) = r_fl c := rfl
theorem rx_fl_mk (c : RS) (v : Int64) : r_fl (rs_mk c v) = r_fl c := rfl
theorem rx_fl_me (c : RS) (v : Int32) : r_fl (rs_me c v) = r_fl c := rfl
theorem rx_fl_ac (c : RS) (v : Nat) : r_fl (rs_ac c v) = r_fl c := rfl
theorem rx_fl_an (c : RS) (v : Nat → Nat) : r_fl (rs_an c v) = r_fl c := rfl
theorem rx_fl_on (c : RS) (v : Nat → Nat) : r_fl (rs_on c v) = r_fl c := rfl
theorem rx_fl_wi (c : RS) (v : Nat → Int64) : r_fl (rs_wi c v) = r_fl c := rfl
theorem rx_rc_S (c : RS) (v : Nat → Int64) : r_rc (rs_S c v) = r_rc c := rfl
theorem rx_rc_K (c : RS) (v : Nat → Int64) : r_rc (rs_K c v) = r_rc c := rfl
theorem rx_rc_fl (c : RS) (v : Nat → Bool) : r_rc (rs_fl c v) = r_rc c := rfl
theorem rx_rc_rc (c : RS) (v : Nat) : r_rc (rs_rc c v) = v := rfl
theorem rx_rc_fi (c : RS) (v : Nat → Nat) : r_rc (rs_fi c v) = r_rc c := rfl
theorem rx_rc_ma (c : RS) (v : Nat → Nat) : r_rc (rs_ma c v) = r_rc c := rfl
theorem rx_rc_fr (c : RS) (v : Nat → Nat) : r_rc (rs_fr c v) = r_rc c := rfl
theorem rx_rc_st (c : RS) (v : Nat → Nat) : r_rc (rs_st c v) = r_rc c := rfl
theorem rx_rc_ol (c : RS) (v : Nat → Int64) : r_rc (rs_ol c v) = r_rc c := rfl
theorem rx_rc_of (c : RS) (v : Bool) : r_rc (rs_of c v) = r_rc c := rfl
theorem rx_rc_op (c : RS) (v : Bool) : r_rc (rs_op c v) = r_rc c := rfl
theorem rx_rc_to (c : RS) (v : Nat → Bool) : r_rc (rs_to c v) = r_rc c := rfl
theorem rx_rc_ar (c : RS) (v : Nat) : r_rc (rs_ar c v) = r_rc c := rfl
theorem rx_rc_mk (c : RS) (v : Int64) : r_rc (rs_mk c v) = r_rc c := rfl
theorem rx_rc_me (c : RS) (v : Int32) : r_rc (rs_me c v) = r_rc c := rfl
theorem rx_rc_ac (c : RS) (v : Nat) : r_rc (rs_ac c v) = r_rc c := rfl
theorem rx_rc_an (c : RS) (v : Nat → Nat) : r_rc (rs_an c v) = r_rc c := rfl
theorem rx_rc_on (c : RS) (v : Nat → Nat) : r_rc (rs_on c v) = r_rc c := rfl
theorem rx_rc_wi (c : RS) (v : Nat → Int64) : r_rc (rs_wi c v) = r_rc c := rfl
theorem rx_fi_S (c : RS) (v : Nat → Int64) : r_fi (rs_S c v) = r_fi c := rfl
theorem rx_fi_K (c : RS) (v : Nat → Int64) : r_fi (rs_K c v) = r_fi c := rfl
theorem rx_fi_fl (c : RS) (v : Nat → Bool) : r_fi (rs_fl c v) = r_fi c := rfl
theorem rx_fi_rc (c : RS) (v : Nat) : r_fi (rs_rc c v) = r_fi c := rfl
theorem rx_fi_fi (c : RS) (v : Nat → Nat) : r_fi (rs_fi c v) = v := rfl
theorem rx_fi_ma (c : RS) (v : Nat → Nat) : r_fi (rs_ma c v) = r_fi c := rfl
theorem rx_fi_fr (c : RS) (v : Nat → Nat) : r_fi (rs_fr c v) = r_fi c := rfl
theorem rx_fi_st (c : RS) (v : Nat → Nat) : r_fi (rs_st c v) = r_fi c := rfl
theorem rx_fi_ol (c : RS) (v : Nat → Int64) : r_fi (rs_ol c v) = r_fi c := rfl
theorem rx_fi_of (c : RS) (v : Bool) : r_fi (rs_of c v) = r_fi c := rfl
theorem rx_fi_op (c : RS) (v : Bool) : r_fi (rs_op c v) = r_fi c := rfl
theorem rx_fi_to (c : RS) (v : Nat → Bool) : r_fi (rs_to c v) = r_fi c := rfl
theorem rx_fi_ar (c : RS) (v : Nat) : r_fi (rs_ar c v) = r_fi c := rfl
theorem rx_fi_mk (c : RS) (v : Int64) : r_fi (rs_mk c v) = r_fi c := rfl
theorem rx_fi_me (c : RS) (v : Int32) : r_fi (rs_me c v) = r_fi c := rfl
theorem rx_fi_ac (c : RS) (v : Nat) : r_fi (rs_ac c v) = r_fi c := rfl
theorem rx_fi_an (c : RS) (v : Nat → Nat) : r_fi (rs_an c v) = r_fi c := rfl
theorem rx_fi_on (c : RS) (v : Nat → Nat) : r_fi (rs_on c v) = r_fi c := rfl
theorem rx_fi_wi (c : RS) (v : Nat → Int64) : r_fi (rs_wi c v) = r_fi c := rfl
theorem rx_ma_S (c : RS) (v : Nat → Int64) : r_ma (rs_S c v) = r_ma c := rfl
theorem rx_ma_K (c : RS) (v : Nat → Int64) : r_ma (rs_K c v) = r_ma c := rfl
theorem rx_ma_fl (c : RS) (v : Nat → Bool) : r_ma (rs_fl c v) = r_ma c := rfl
theorem rx_ma_rc (c : RS) (v : Nat) : r_ma (rs_rc c v) = r_ma c := rfl
theorem rx_ma_fi (c : RS) (v : Nat → Nat) : r_ma (rs_fi c v) = r_ma c := rfl
theorem rx_ma_ma (c : RS) (v : Nat → Nat) : r_ma (rs_ma c v) = v := rfl
theorem rx_ma_fr (c : RS) (v : Nat → Nat) : r_ma (rs_fr c v) = r_ma c := rfl
theorem rx_ma_st (c : RS) (v : Nat → Nat) : r_ma (rs_st c v) = r_ma c := rfl
theorem rx_ma_ol (c : RS) (v : Nat → Int64) : r_ma (rs_ol c v) = r_ma c := rfl
theorem rx_ma_of (c : RS) (v : Bool) : r_ma (rs_of c v) = r_ma c := rfl
theorem rx_ma_op (c : RS) (v : Bool) : r_ma (rs_op c v) = r_ma c := rfl
theorem rx_ma_to (c : RS) (v : Nat → Bool) : r_ma (rs_to c v) = r_ma c := rfl
theorem rx_ma_ar (c : RS) (v : Nat) : r_ma (rs_ar c v) = r_ma c := rfl
theorem rx_ma_mk (c : RS) (v : Int64) : r_ma (rs_mk c v) = r_ma c := rfl
theorem rx_ma_me (c : RS) (v : Int32) : r_ma (rs_me c v) = r_ma c := rfl
theorem rx_ma_ac (c : RS) (v : Nat) : r_ma (rs_ac c v) = r_ma c := rfl
theorem rx_ma_an (c : RS) (v : Nat → Nat) : r_ma (rs_an c v) = r_ma c := rfl
theorem rx_ma_on (c : RS) (v : Nat → Nat) : r_ma (rs_on c v) = r_ma c := rfl
theorem rx_ma_wi (c : RS) (v : Nat → Int64) : r_ma (rs_wi c v) = r_ma c := rfl
theorem rx_fr_S (c : RS) (v : Nat → Int64) : r_fr (rs_S c v) = r_fr c := rfl
theorem rx_fr_K (c : RS) (v : Nat → Int64) : r_fr (rs_K c v) = r_fr c := rfl
theorem rx_fr_fl (c : RS) (v : Nat → Bool) : r_fr (rs_fl c v) = r_fr c := rfl
theorem rx_fr_rc (c : RS) (v : Nat) : r_fr (rs_rc c v) = r_fr c := rfl
theorem rx_fr_fi (c : RS) (v : Nat → Nat) : r_fr (rs_fi c v) = r_fr c := rfl
theorem rx_fr_ma (c : RS) (v : Nat → Nat) : r_fr (rs_ma c v) = r_fr c := rfl
theorem rx_fr_fr (c : RS) (v : Nat → Nat) : r_fr (rs_fr c v) = v := rfl
theorem rx_fr_st (c : RS) (v : Nat → Nat) : r_fr (rs_st c v) = r_fr c := rfl
theorem rx_fr_ol (c : RS) (v : Nat → Int64) : r_fr (rs_ol c v) = r_fr c := rfl
theorem rx_fr_of (c : RS) (v : Bool) : r_fr (rs_of c v) = r_fr c := rfl
theorem rx_fr_op (c : RS) (v : Bool) : r_fr (rs_op c v) = r_fr c := rfl
theorem rx_fr_to (c : RS) (v : Nat → Bool) : r_fr (rs_to c v) = r_fr c := rfl
theorem rx_fr_ar (c : RS) (v : Nat) : r_fr (rs_ar c v) = r_fr c := rfl
theorem rx_fr_mk (c : RS) (v : Int64) : r_fr (rs_mk c v) = r_fr c := rfl
theorem rx_fr_me (c : RS) (v : Int32) : r_fr (rs_me c v) = r_fr c := rfl
theorem rx_fr_ac (c : RS) (v : Nat) : r_fr (rs_ac c v) = r_fr c := rfl
theorem rx_fr_an (c : RS) (v : Nat → Nat) : r_fr (rs_an c v) = r_fr c := rfl
theorem rx_fr_on (c : RS) (v : Nat → Nat) : r_fr (rs_on c v) = r_fr c := rfl
theorem rx_fr_wi (c : RS) (v : Nat → Int64) : r_fr (rs_wi c v) = r_fr c := rfl
theorem rx_st_S (c : RS) (v : Nat → Int64) : r_st (rs_S c v) = r_st c := rfl
theorem rx_st_K (c : RS) (v : Nat → Int64) : r_st (rs_K c v) = r_st c := rfl
theorem rx_st_fl (c : RS) (v : Nat → Bool) : r_st (rs_fl c v) = r_st c := rfl
theorem rx_st_rc (c : RS) (v : Nat) : r_st (rs_rc c v) = r_st c := rfl
theorem rx_st_fi (c : RS) (v : Nat → Nat) : r_st (rs_fi c v) = r_st c := rfl
theorem rx_st_ma (c : RS) (v : Nat → Nat) : r_st (rs_ma c v) = r_st c := rfl
theorem rx_st_fr (c : RS) (v : Nat → Nat) : r_st (rs_fr c v) = r_st c := rfl
theorem rx_st_st (c : RS) (v : Nat → Nat) : r_st (rs_st c v) = v := rfl
theorem rx_st_ol (c : RS) (v : Nat → Int64) : r_st (rs_ol c v) = r_st c := rfl
theorem rx_st_of (c : RS) (v : Bool) : r_st (rs_of c v) = r_st c := rfl
theorem rx_st_op (c : RS) (v : Bool) : r_st (rs_op c v) = r_st c := rfl
theorem rx_st_to (c : RS) (v : Nat → Bool) : r_st (rs_to c v) = r_st c := rfl
theorem rx_st_ar (c : RS) (v : Nat) : r_st (rs_ar c v) = r_st c := rfl
theorem rx_st_mk (c : RS) (v : Int64) : r_st (rs_mk c v) = r_st c := rfl
theorem rx_st_me (c : RS) (v : Int32) : r_st (rs_me c v) = r_st c := rfl
theorem rx_st_ac (c : RS) (v : Nat) : r_st (rs_ac c v) = r_st c := rfl
theorem rx_st_an (c : RS) (v : Nat → Nat) : r_st (rs_an c v) = r_st c := rfl
theorem rx_st_on (c : RS) (v : Nat → Nat) : r_st (rs_on c v) = r_st c := rfl
theorem rx_st_wi (c : RS) (v : Nat → Int64) : r_st (rs_wi c v) = r_st c := rfl
theorem rx_ol_S (c : RS) (v : Nat → Int64) : r_ol (rs_S c v) = r_ol c := rfl
theorem rx_ol_K (c : RS) (v : Nat → Int64) : r_ol (rs_K c v) = r_ol c := rfl
theorem rx_ol_fl (c : RS) (v : Nat → Bool) : r_ol (rs_fl c v) = r_ol c := rfl
theorem rx_ol_rc (c : RS) (v : Nat) : r_ol (rs_rc c v) = r_ol c := rfl
theorem rx_ol_fi (c : RS) (v : Nat → Nat) : r_ol (rs_fi c v) = r_ol c := rfl
theorem rx_ol_ma (c : RS) (v : Nat → Nat) : r_ol (rs_ma c v) = r_ol c := rfl
theorem rx_ol_fr (c : RS) (v : Nat → Nat) : r_ol (rs_fr c v) = r_ol c := rfl
theorem rx_ol_st (c : RS) (v : Nat → Nat) : r_ol (rs_st c v) = r_ol c := rfl
theorem rx_ol_ol (c : RS) (v : Nat → Int64) : r_ol (rs_ol c v) = v := rfl
theorem rx_ol_of (c : RS) (v : Bool) : r_ol (rs_of c v) = r_ol c := rfl
theorem rx_ol_op (c : RS) (v : Bool) : r_ol (rs_op c v) = r_ol c := rfl
theorem rx_ol_to (c : RS) (v : Nat → Bool) : r_ol (rs_to c v) = r_ol c := rfl
theorem rx_ol_ar (c : RS) (v : Nat) : r_ol (rs_ar c v) = r_ol c := rfl
theorem rx_ol_mk (c : RS) (v : Int64) : r_ol (rs_mk c v) = r_ol c := rfl
theorem rx_ol_me (c : RS) (v : Int32) : r_ol (rs_me c v) = r_ol c := rfl
theorem rx_ol_ac (c : RS) (v : Nat) : r_ol (rs_ac c v) = r_ol c := rfl
theorem rx_ol_an (c : RS) (v : Nat → Nat) : r_ol (rs_an c v) = r_ol c := rfl
theorem rx_ol_on (c : RS) (v : Nat → Nat) : r_ol (rs_on c v) = r_ol c := rfl
theorem rx_ol_wi (c : RS) (v : Nat → Int64) : r_ol (rs_wi c v) = r_ol c := rfl
theorem rx_of_S (c : RS) (v : Nat → Int64) : r_of (rs_S c v) = r_of c := rfl
theorem rx_of_K (c : RS) (v : Nat → Int64) : r_of (rs_K c v) = r_of c := rfl
theorem rx_of_fl (c : RS) (v : Nat → Bool) : r_of (rs_fl c v) = r_of c := rfl
theorem rx_of_rc (c : RS) (v : Nat) : r_of (rs_rc c v) = r_of c := rfl
theorem rx_of_fi (c : RS) (v : Nat → Nat) : r_of (rs_fi c v) = r_of c := rfl
theorem rx_of_ma (c : RS) (v : Nat → Nat) : r_of (rs_ma c v) = r_of c := rfl
theorem rx_of_fr (c : RS) (v : Nat → Nat) : r_of (rs_fr c v) = r_of c := rfl
theorem rx_of_st (c : RS) (v : Nat → Nat) : r_of (rs_st c v) = r_of c := rfl
theorem rx_of_ol (c : RS) (v : Nat → Int64) : r_of (rs_ol c v) = r_of c := rfl
theorem rx_of_of (c : RS) (v : Bool) : r_of (rs_of c v) = v := rfl
theorem rx_of_op (c : RS) (v : Bool) : r_of (rs_op c v) = r_of c := rfl
theorem rx_of_to (c : RS) (v : Nat → Bool) : r_of (rs_to c v) = r_of c := rfl
theorem rx_of_ar (c : RS) (v : Nat) : r_of (rs_ar c v) = r_of c := rfl
theorem rx_of_mk (c : RS) (v : Int64) : r_of (rs_mk c v) = r_of c := rfl
theorem rx_of_me (c : RS) (v : Int32) : r_of (rs_me c v) = r_of c := rfl
theorem rx_of_ac (c : RS) (v : Nat) : r_of (rs_ac c v) = r_of c := rfl
theorem rx_of_an (c : RS) (v : Nat → Nat) : r_of (rs_an c v) = r_of c := rfl
theorem rx_of_on (c : RS) (v : Nat → Nat) : r_of (rs_on c v) = r_of c := rfl
theorem rx_of_wi (c : RS) (v : Nat → Int64) : r_of (rs_wi c v) = r_of c := rfl
theorem rx_op_S (c : RS) (v : Nat → Int64) : r_op (rs_S c v) = r_op c := rfl
theorem rx_op_K (c : RS) (v : Nat → Int64) : r_op (rs_K c v) = r_op c := rfl
theorem rx_op_fl (c : RS) (v : Nat → Bool) : r_op (rs_fl c v) = r_op c := rfl
theorem rx_op_rc (c : RS) (v : Nat) : r_op (rs_rc c v) = r_op c := rfl
theorem rx_op_fi (c : RS) (v : Nat → Nat) : r_op (rs_fi c v) = r_op c := rfl
theorem rx_op_ma (c : RS) (v : Nat → Nat) : r_op (rs_ma c v) = r_op c := rfl
theorem rx_op_fr (c : RS) (v : Nat → Nat) : r_op (rs_fr c v) = r_op c := rfl
theorem rx_op_st (c : RS) (v : Nat → Nat) : r_op (rs_st c v) = r_op c := rfl
theorem rx_op_ol (c : RS) (v : Nat → Int64) : r_op (rs_ol c v) = r_op c := rfl
theorem rx_op_of (c : RS) (v : Bool) : r_op (rs_of c v) = r_op c := rfl
theorem rx_op_op (c : RS) (v : Bool) : r_op (rs_op c v) = v := rfl
theorem rx_op_to (c : RS) (v : Nat → Bool) : r_op (rs_to c v) = r_op c := rfl
theorem rx_op_ar (c : RS) (v : Nat) : r_op (rs_ar c v) = r_op c := rfl
theorem rx_op_mk (c : RS) (v : Int64) : r_op (rs_mk c v) = r_op c := rfl
theorem rx_op_me (c : RS) (v : Int32) : r_op (rs_me c v) = r_op c := rfl
theorem rx_op_ac (c : RS) (v : Nat) : r_op (rs_ac c v) = r_op c := rfl
theorem rx_op_an (c : RS) (v : Nat → Nat) : r_op (rs_an c v) = r_op c := rfl
theorem rx_op_on (c : RS) (v : Nat → Nat) : r_op (rs_on c v) = r_op c := rfl
theorem rx_op_wi (c : RS) (v : Nat → Int64) : r_op (rs_wi c v) = r_op c := rfl
theorem rx_to_S (c : RS) (v : Nat → Int64) : r_to (rs_S c v) = r_to c := rfl
theorem rx_to_K (c : RS) (v : Nat → Int64) : r_to (rs_K c v) = r_to c := rfl
theorem rx_to_fl (c : RS) (v : Nat → Bool) : r_to (rs_fl c v) = r_to c := rfl
theorem rx_to_rc (c : RS) (v : Nat) : r_to (rs_rc c v) = r_to c := rfl
theorem rx_to_fi (c : RS) (v : Nat → Nat) : r_to (rs_fi c v) = r_to c := rfl
theorem rx_to_ma (c : RS) (v : Nat → Nat) : r_to (rs_ma c v) = r_to c := rfl
theorem rx_to_fr (c : RS) (v : Nat → Nat) : r_to (rs_fr c v) = r_to c := rfl
theorem rx_to_st (c : RS) (v : Nat → Nat) : r_to (rs_st c v) = r_to c := rfl
theorem rx_to_ol (c : RS) (v : Nat → Int64) : r_to (rs_ol c v) = r_to c := rfl
theorem rx_to_of (c : RS) (v : Bool) : r_to (rs_of c v) = r_to c := rfl
theorem rx_to_op (c : RS) (v : Bool) : r_to (rs_op c v) = r_to c := rfl
theorem rx_to_to (c : RS) (v : Nat → Bool) : r_to (rs_to c v) = v := rfl
theorem rx_to_ar (c : RS) (v : Nat) : r_to (rs_ar c v) = r_to c := rfl
theorem rx_to_mk (c : RS) (v : Int64) : r_to (rs_mk c v) = r_to c := rfl
theorem rx_to_me (c : RS) (v : Int32) : r_to (rs_me c v) = r_to c := rfl
theorem rx_to_ac (c : RS) (v : Nat) : r_to (rs_ac c v) = r_to c := rfl
theorem rx_to_an (c : RS) (v : Nat → Nat) : r_to (rs_an c v) = r_to c := rfl
theorem rx_to_on (c : RS) (v : Nat → Nat) : r_to (rs_on c v) = r_to c := rfl
theorem rx_to_wi (c : RS) (v : Nat → Int64) : r_to (rs_wi c v) = r_to c := rfl
theorem rx_ar_S (c : RS) (v : Nat → Int64) : r_ar (rs_S c v) = r_ar c := rfl
theorem rx_ar_K (c : RS) (v : Nat → Int64) : r_ar (rs_K c v) = r_ar c := rfl
theorem rx_ar_fl (c : RS) (v : Nat → Bool) : r_ar (rs_fl c v) = r_ar c := rfl
theorem rx_ar_rc (c : RS) (v : Nat) : r_ar (rs_rc c v) = r_ar c := rfl
theorem rx_ar_fi (c : RS) (v : Nat → Nat) : r_ar (rs_fi c v) = r_ar c := rfl
theorem rx_ar_ma (c : RS) (v : Nat → Nat) : r_ar (rs_ma c v) = r_ar c := rfl
theorem rx_ar_fr (c : RS) (v : Nat → Nat) : r_ar (rs_fr c v) = r_ar c := rfl
theorem rx_ar_st (c : RS) (v : Nat → Nat) : r_ar (rs_st c v) = r_ar c := rfl
theorem rx_ar_ol (c : RS) (v : Nat → Int64) : r_ar (rs_ol c v) = r_ar c := rfl
theorem rx_ar_of (c : RS) (v : Bool) : r_ar (rs_of c v) = r_ar c := rfl
theorem rx_ar_op (c : RS) (v : Bool) : r_ar (rs_op c v) = r_ar c := rfl
theorem rx_ar_to (c : RS) (v : Nat → Bool) : r_ar (rs_to c v) = r_ar c := rfl
theorem rx_ar_ar (c : RS) (v : Nat) : r_ar (rs_ar c v) = v := rfl
theorem rx_ar_mk (c : RS) (v : Int64) : r_ar (rs_mk c v) = r_ar c := rfl
theorem rx_ar_me (c : RS) (v : Int32) : r_ar (rs_me c v) = r_ar c := rfl
theorem rx_ar_ac (c : RS) (v : Nat) : r_ar (rs_ac c v) = r_ar c := rfl
theorem rx_ar_an (c : RS) (v : Nat → Nat) : r_ar (rs_an c v) = r_ar c := rfl
theorem rx_ar_on (c : RS) (v : Nat → Nat) : r_ar (rs_on c v) = r_ar c := rfl
theorem rx_ar_wi (c : RS) (v : Nat → Int64) : r_ar (rs_wi c v) = r_ar c := rfl
theorem rx_mk_S (c : RS) (v : Nat → Int64) : r_mk (rs_S c v) = r_mk c := rfl
theorem rx_mk_K (c : RS) (v : Nat → Int64) : r_mk (rs_K c v) = r_mk c := rfl
theorem rx_mk_fl (c : RS) (v : Nat → Bool) : r_mk (rs_fl c v) = r_mk c := rfl
theorem rx_mk_rc (c : RS) (v : Nat) : r_mk (rs_rc c v) = r_mk c := rfl
theorem rx_mk_fi (c : RS) (v : Nat → Nat) : r_mk (rs_fi c v) = r_mk c := rfl
theorem rx_mk_ma (c : RS) (v : Nat → Nat) : r_mk (rs_ma c v) = r_mk c := rfl
theorem rx_mk_fr (c : RS) (v : Nat → Nat) : r_mk (rs_fr c v) = r_mk c := rfl
theorem rx_mk_st (c : RS) (v : Nat → Nat) : r_mk (rs_st c v) = r_mk c := rfl
theorem rx_mk_ol (c : RS) (v : Nat → Int64) : r_mk (rs_ol c v) = r_mk c := rfl
theorem rx_mk_of (c : RS) (v : Bool) : r_mk (rs_of c v) = r_mk c := rfl
theorem rx_mk_op (c : RS) (v : Bool) : r_mk (rs_op c v) = r_mk c := rfl
theorem rx_mk_to (c : RS) (v : Nat → Bool) : r_mk (rs_to c v) = r_mk c := rfl
theorem rx_mk_ar (c : RS) (v : Nat) : r_mk (rs_ar c v) = r_mk c := rfl
theorem rx_mk_mk (c : RS) (v : Int64) : r_mk (rs_mk c v) = v := rfl
theorem rx_mk_me (c : RS) (v : Int32) : r_mk (rs_me c v) = r_mk c := rfl
theorem rx_mk_ac (c : RS) (v : Nat) : r_mk (rs_ac c v) = r_mk c := rfl
theorem rx_mk_an (c : RS) (v : Nat → Nat) : r_mk (rs_an c v) = r_mk c := rfl
theorem rx_mk_on (c : RS) (v : Nat → Nat) : r_mk (rs_on c v) = r_mk c := rfl
theorem rx_mk_wi (c : RS) (v : Nat → Int64) : r_mk (rs_wi c v) = r_mk c := rfl
theorem rx_me_S (c : RS) (v : Nat → Int64) : r_me (rs_S c v) = r_me c := rfl
theorem rx_me_K (c : RS) (v : Nat → Int64) : r_me (rs_K c v) = r_me c := rfl
theorem rx_me_fl (c : RS) (v : Nat → Bool) : r_me (rs_fl c v) = r_me c := rfl
theorem rx_me_rc (c : RS) (v : Nat) : r_me (rs_rc c v) = r_me c := rfl
theorem rx_me_fi (c : RS) (v : Nat → Nat) : r_me (rs_fi c v) = r_me c := rfl
theorem rx_me_ma (c : RS) (v : Nat → Nat) : r_me (rs_ma c v) = r_me c := rfl
theorem rx_me_fr (c : RS) (v : Nat → Nat) : r_me (rs_fr c v) = r_me c := rfl
theorem rx_me_st (c : RS) (v : Nat → Nat) : r_me (rs_st c v) = r_me c := rfl
theorem rx_me_ol (c : RS) (v : Nat → Int64) : r_me (rs_ol c v) = r_me c := rfl
theorem rx_me_of (c : RS) (v : Bool) : r_me (rs_of c v) = r_me c := rfl
theorem rx_me_op (c : RS) (v : Bool) : r_me (rs_op c v) = r_me c := rfl
theorem rx_me_to (c : RS) (v : Nat → Bool) : r_me (rs_to c v) = r_me c := rfl
theorem rx_me_ar (c : RS) (v : Nat) : r_me (rs_ar c v) = r_me c := rfl
theorem rx_me_mk (c : RS) (v : Int64) : r_me (rs_mk c v) = r_me c := rfl
theorem rx_me_me (c : RS) (v : Int32) : r_me (rs_me c v) = v := rfl
theorem rx_me_ac (c : RS) (v : Nat) : r_me (rs_ac c v) = r_me c := rfl
theorem rx_me_an (c : RS) (v : Nat → Nat) : r_me (rs_an c v) = r_me c := rfl
theorem rx_me_on (c : RS) (v : Nat → Nat) : r_me (rs_on c v) = r_me c := rfl
theorem rx_me_wi (c : RS) (v : Nat → Int64) : r_me (rs_wi c v) = r_me c := rfl
theorem rx_ac_S (c : RS) (v : Nat → Int64) : r_ac (rs_S c v) = r_ac c := rfl
theorem rx_ac_K (c : RS) (v : Nat → Int64) : r_ac (rs_K c v) = r_ac c := rfl
theorem rx_ac_fl (c : RS) (v : Nat → Bool) : r_ac (rs_fl c v) = r_ac c := rfl
theorem rx_ac_rc (c : RS) (v : Nat) : r_ac (rs_rc c v) = r_ac c := rfl
theorem rx_ac_fi (c : RS) (v : Nat → Nat) : r_ac (rs_fi c v) = r_ac c := rfl
theorem rx_ac_ma (c : RS) (v : Nat → Nat) : r_ac (rs_ma c v) = r_ac c := rfl
theorem rx_ac_fr (c : RS) (v : Nat → Nat) : r_ac (rs_fr c v) = r_ac c := rfl
theorem rx_ac_st (c : RS) (v : Nat → Nat) : r_ac (rs_st c v) = r_ac c := rfl
theorem rx_ac_ol (c : RS) (v : Nat → Int64) : r_ac (rs_ol c v) = r_ac c := rfl
theorem rx_ac_of (c : RS) (v : Bool) : r_ac (rs_of c v) = r_ac c := rfl
theorem rx_ac_op (c : RS) (v : Bool) : r_ac (rs_op c v) = r_ac c := rfl
theorem rx_ac_to (c : RS) (v : Nat → Bool) : r_ac (rs_to c v) = r_ac c := rfl
theorem rx_ac_ar (c : RS) (v : Nat) : r_ac (rs_ar c v) = r_ac c := rfl
theorem rx_ac_mk (c : RS) (v : Int64) : r_ac (rs_mk c v) = r_ac c := rfl
theorem rx_ac_me (c : RS) (v : Int32) : r_ac (rs_me c v) = r_ac c := rfl
theorem rx_ac_ac (c : RS) (v : Nat) : r_ac (rs_ac c v) = v := rfl
theorem rx_ac_an (c : RS) (v : Nat → Nat) : r_ac (rs_an c v) = r_ac c := rfl
theorem rx_ac_on (c : RS) (v : Nat → Nat) : r_ac (rs_on c v) = r_ac c := rfl
theorem rx_ac_wi (c : RS) (v : Nat → Int64) : r_ac (rs_wi c v) = r_ac c := rfl
theorem rx_an_S (c : RS) (v : Nat → Int64) : r_an (rs_S c v) = r_an c := rfl
theorem rx_an_K (c : RS) (v : Nat → Int64) : r_an (rs_K c v) = r_an c := rfl
theorem rx_an_fl (c : RS) (v : Nat → Bool) : r_an (rs_fl c v) = r_an c := rfl
theorem rx_an_rc (c : RS) (v : Nat) : r_an (rs_rc c v) = r_an c := rfl
theorem rx_an_fi (c : RS) (v : Nat → Nat) : r_an (rs_fi c v) = r_an c := rfl
theorem rx_an_ma (c : RS) (v : Nat → Nat) : r_an (rs_ma c v) = r_an c := rfl
theorem rx_an_fr (c : RS) (v : Nat → Nat) : r_an (rs_fr c v) = r_an c := rfl
theorem rx_an_st (c : RS) (v : Nat → Nat) : r_an (rs_st c v) = r_an c := rfl
theorem rx_an_ol (c : RS) (v : Nat → Int64) : r_an (rs_ol c v) = r_an c := rfl
theorem rx_an_of (c : RS) (v : Bool) : r_an (rs_of c v) = r_an c := rfl
theorem rx_an_op (c : RS) (v : Bool) : r_an (rs_op c v) = r_an c := rfl
theorem rx_an_to (c : RS) (v : Nat → Bool) : r_an (rs_to c v) = r_an c := rfl
theorem rx_an_ar (c : RS) (v : Nat) : r_an (rs_ar c v) = r_an c := rfl
theorem rx_an_mk (c : RS) (v : Int64) : r_an (rs_mk c v) = r_an c := rfl
theorem rx_an_me (c : RS) (v : Int32) : r_an (rs_me c v) = r_an c := rfl
theorem rx_an_ac (c : RS) (v : Nat) : r_an (rs_ac c v) = r_an c := rfl
theorem rx_an_an (c : RS) (v : Nat → Nat) : r_an (rs_an c v) = v := rfl
theorem rx_an_on (c : RS) (v : Nat → Nat) : r_an (rs_on c v) = r_an c := rfl
theorem rx_an_wi (c : RS) (v : Nat → Int64) : r_an (rs_wi c v) = r_an c := rfl
theorem rx_on_S (c : RS) (v : Nat → Int64) : r_on (rs_S c v) = r_on c := rfl
theorem rx_on_K (c : RS) (v : Nat → Int64) : r_on (rs_K c v) = r_on c := rfl
theorem rx_on_fl (c : RS) (v : Nat → Bool) : r_on (rs_fl c v) = r_on c := rfl
theorem rx_on_rc (c : RS) (v : Nat) : r_on (rs_rc c v) = r_on c := rfl
theorem rx_on_fi (c : RS) (v : Nat → Nat) : r_on (rs_fi c v) = r_on c := rfl
theorem rx_on_ma (c : RS) (v : Nat → Nat) : r_on (rs_ma c v) = r_on c := rfl
theorem rx_on_fr (c : RS) (v : Nat → Nat) : r_on (rs_fr c v) = r_on c := rfl
theorem rx_on_st (c : RS) (v : Nat → Nat) : r_on (rs_st c v) = r_on c := rfl
theorem rx_on_ol (c : RS) (v : Nat → Int64) : r_on (rs_ol c v) = r_on c := rfl
theorem rx_on_of (c : RS) (v : Bool) : r_on (rs_of c v) = r_on c := rfl
theorem rx_on_op (c : RS) (v : Bool) : r_on (rs_op c v) = r_on c := rfl
theorem rx_on_to (c : RS) (v : Nat → Bool) : r_on (rs_to c v) = r_on c := rfl
theorem rx_on_ar (c : RS) (v : Nat) : r_on (rs_ar c v) = r_on c := rfl
theorem rx_on_mk (c : RS) (v : Int64) : r_on (rs_mk c v) = r_on c := rfl
theorem rx_on_me (c : RS) (v : Int32) : r_on (rs_me c v) = r_on c := rfl
theorem rx_on_ac (c : RS) (v : Nat) : r_on (rs_ac c v) = r_on c := rfl
theorem rx_on_an (c : RS) (v : Nat → Nat) : r_on (rs_an c v) = r_on c := rfl
theorem rx_on_on (c : RS) (v : Nat → Nat) : r_on (rs_on c v) = v := rfl
theorem rx_on_wi (c : RS) (v : Nat → Int64) : r_on (rs_wi c v) = r_on c := rfl
theorem rx_wi_S (c : RS) (v : Nat → Int64) : r_wi (rs_S c v) = r_wi c := rfl
theorem rx_wi_K (c : RS) (v : Nat → Int64) : r_wi (rs_K c v) = r_wi c := rfl
theorem rx_wi_fl (c : RS) (v : Nat → Bool) : r_wi (rs_fl c v) = r_wi c := rfl
theorem rx_wi_rc (c : RS) (v : Nat) : r_wi (rs_rc c v) = r_wi c := rfl
theorem rx_wi_fi (c : RS) (v : Nat → Nat) : r_wi (rs_fi c v) = r_wi c := rfl
theorem rx_wi_ma (c : RS) (v : Nat → Nat) : r_wi (rs_ma c v) = r_wi c := rfl
theorem rx_wi_fr (c : RS) (v : Nat → Nat) : r_wi (rs_fr c v) = r_wi c := rfl
theorem rx_wi_st (c : RS) (v : Nat → Nat) : r_wi (rs_st c v) = r_wi c := rfl
theorem rx_wi_ol (c : RS) (v : Nat → Int64) : r_wi (rs_ol c v) = r_wi c := rfl
theorem rx_wi_of (c : RS) (v : Bool) : r_wi (rs_of c v) = r_wi c := rfl
theorem rx_wi_op (c : RS) (v : Bool) : r_wi (rs_op c v) = r_wi c := rfl
theorem rx_wi_to (c : RS) (v : Nat → Bool) : r_wi (rs_to c v) = r_wi c := rfl
theorem rx_wi_ar (c : RS) (v : Nat) : r_wi (rs_ar c v) = r_wi c := rfl
theorem rx_wi_mk (c : RS) (v : Int64) : r_wi (rs_mk c v) = r_wi c := rfl
theorem rx_wi_me (c : RS) (v : Int32) : r_wi (rs_me c v) = r_wi c := rfl
theorem rx_wi_ac (c : RS) (v : Nat) : r_wi (rs_ac c v) = r_wi c := rfl
theorem rx_wi_an (c : RS) (v : Nat → Nat) : r_wi (rs_an c v) = r_wi c := rfl
theorem rx_wi_on (c : RS) (v : Nat → Nat) : r_wi (rs_on c v) = r_wi c := rfl
theorem rx_wi_wi (c : RS) (v : Nat → Int64) : r_wi (rs_wi c v) = v := rfl
