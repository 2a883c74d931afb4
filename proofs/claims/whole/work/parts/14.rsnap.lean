theorem in_X2_X2_listClearing : ∀ w ∈ wsX20, w ∈ wsX2_listClearing := fun w h => List.mem_cons_of_mem _ (List.mem_append_right _ (h))
set_option maxHeartbeats 400000 in
set_option maxRecDepth 100000 in
theorem mX2_listClearing (l : Launch) (y : Nat → ClassId) (t : va_W) (b : Nat → Nat) (r : RS) (hac3 : r_ac r + 3 ≤ 64) (hz : r_rc r ≤ 20) : MGv l yX2_listClearing wsX2_listClearing 1 24 [.ref (b 0)] (tyA y) (wR b y r t) (wR b y (listAll (clrL r) r) t) := by
  refine MGv.of (cc := cX2_listClearing) (maxL := 1) (by decide) rfl (Nat.le_of_ble_eq_true rfl) ?_
  intro D p e s m below meth c0 A ls hx hb hr hml hown hlocks hts hK hP hD hA hN hl hS
  have hl : lv_has ls 1 [(0, .ref (b 0))] := hl
  have hinX2 : ∀ w ∈ u_ws RX2 TX2 19, w ∈ wsX2_listClearing := in_X2_X2_listClearing
  refine lv_aload_n hx hb dX2_listClearing_0 rfl (lv_at hl 0 rfl) ?_
  refine rg_rc hx hb hts hinX2 hown hK hP (hts (.fieldLink RX2 52 "FencedWordsModel" "records" "I") (List.mem_of_getElem? (i := 1) rfl)) dX2_listClearing_1 ?_
  refine q_if_ne (tgt := 8) hx hb (show (r_rc r) < 2 ^ 31 by omega) dX2_listClearing_4 (by decide) (fun (h4 : ¬ (r_rc r) = 0) => ?_) (fun (h4 : (r_rc r) = 0) => ?_)
  · refine lv_aload_n hx hb dX2_listClearing_8 rfl (lv_at hl 0 rfl) ?_
    refine lv_bipush (v := nI 6) hx hb dX2_listClearing_9 (by decide) ?_
    refine lv_iconst (v := nI 0) hx hb dX2_listClearing_11 (by decide) ?_
    refine lv_lconst (v := 0) hx hb dX2_listClearing_12 (by decide) ?_
    refine callVv (rest := []) ⟨hx, hb, hml, hown, hts⟩ (mX2_list l y t b r 6 0 0 (by first | assumption | omega)) (cwV 3 hts gX2_listClearing_X2_list rfl rfl rfl (by decide +kernel) ⟨Nat.le_of_ble_eq_true rfl, Nat.le_of_ble_eq_true rfl⟩) (va_recv hK hP (ci := 2) (q0 := 0) rfl rfl) hK hP hD hS hA hN rfl hl.1 rfl (Nat.le_of_ble_eq_true rfl) dX2_listClearing_13 ⟨Nat.le_of_ble_eq_true rfl, Nat.le_of_ble_eq_true rfl⟩ (fun H locs hP hD hS => ?_)
    have hac : r_ac (listA 6 0 0 r) < 64 := (by simp only [listA, rx_ac_ac]; omega)
    refine lv_aload_n hx hb dX2_listClearing_16 rfl (lv_at hl 0 rfl) ?_
    refine lv_iconst (v := nI 0) hx hb dX2_listClearing_17 (by decide) ?_
    refine lv_iconst (v := nI 0) hx hb dX2_listClearing_18 (by decide) ?_
    refine lv_lconst (v := 0) hx hb dX2_listClearing_19 (by decide) ?_
    refine callVv (rest := []) ⟨hx, hb, hml, hown, hts⟩ (mX2_list l y t b (listA 6 0 0 r) 0 0 0 (by first | assumption | omega)) (cwV 3 hts gX2_listClearing_X2_list rfl rfl rfl (by decide +kernel) ⟨Nat.le_of_ble_eq_true rfl, Nat.le_of_ble_eq_true rfl⟩) (va_recv hK hP (ci := 2) (q0 := 0) rfl rfl) hK hP hD hS hA hN rfl hl.1 rfl (Nat.le_of_ble_eq_true rfl) dX2_listClearing_20 ⟨Nat.le_of_ble_eq_true rfl, Nat.le_of_ble_eq_true rfl⟩ (fun H locs hP hD hS => ?_)
    have hac : r_ac (listA 0 0 0 (listA 6 0 0 r)) < 64 := (by simp only [listA, rx_ac_ac]; omega)
    refine lv_aload_n hx hb dX2_listClearing_23 rfl (lv_at hl 0 rfl) ?_
    refine lv_bipush (v := nI 7) hx hb dX2_listClearing_24 (by decide) ?_
    refine lv_iconst (v := nI 0) hx hb dX2_listClearing_26 (by decide) ?_
    refine lv_lconst (v := 0) hx hb dX2_listClearing_27 (by decide) ?_
    refine callVv (rest := []) ⟨hx, hb, hml, hown, hts⟩ (mX2_list l y t b (listA 0 0 0 (listA 6 0 0 r)) 7 0 0 (by first | assumption | omega)) (cwV 3 hts gX2_listClearing_X2_list rfl rfl rfl (by decide +kernel) ⟨Nat.le_of_ble_eq_true rfl, Nat.le_of_ble_eq_true rfl⟩) (va_recv hK hP (ci := 2) (q0 := 0) rfl rfl) hK hP hD hS hA hN rfl hl.1 rfl (Nat.le_of_ble_eq_true rfl) dX2_listClearing_28 ⟨Nat.le_of_ble_eq_true rfl, Nat.le_of_ble_eq_true rfl⟩ (fun H locs hP hD hS => ?_)
    exact retGv hx hb hr hlocks hK hP hD hS dX2_listClearing_31 (by unfold clrL; rw [if_neg h4]; rfl)
  · exact retGv hx hb hr hlocks hK hP hD hS dX2_listClearing_7 (by unfold clrL; rw [if_pos h4]; rfl)
theorem in_X2_X2_arm : ∀ w ∈ wsX20, w ∈ wsX2_arm := fun w h => List.mem_cons_of_mem _ (List.mem_append_right _ (h))
set_option maxHeartbeats 400000 in
set_option maxRecDepth 100000 in
theorem mX2_arm (l : Launch) (y : Nat → ClassId) (t : va_W) (b : Nat → Nat) (r : RS) (n : Int32) (v : Int64)  : MGi l yX2_arm wsX2_arm 0 0 [.ref (b 0), .int n, .long v] (tyA y) (wR b y r t) (bI ((armR n v r).1)) (wR b y ((armR n v r).2) t) := by
  refine MGi.of (cc := cX2_arm) (maxL := 4) (by decide) rfl (Nat.le_of_ble_eq_true rfl) ?_
  intro D p e s m below meth c0 A ls hx hb hr hml hown hlocks hts hK hP hD hA hN hl hS
  have hl : lv_has ls 4 [(0, .ref (b 0)), (1, .int n), (2, .long v)] := hl
  have hinX2 : ∀ w ∈ u_ws RX2 TX2 19, w ∈ wsX2_arm := in_X2_X2_arm
  refine lv_iload_n hx hb dX2_arm_0 rfl (lv_at hl 1 rfl) ?_
  refine lv_if_lt (tgt := 11) hx hb dX2_arm_1 (by decide) (fun (h1 : n < 0) => ?_) (fun (h1 : ¬ n < 0) => ?_)
  · refine lv_iconst (v := nI 0) hx hb dX2_arm_11 (by decide) ?_
    exact retGz hx hb hr hlocks hK hP hD hS dX2_arm_12 (by unfold armR; rw [if_pos h1]; rfl) (by unfold armR; rw [if_pos h1])
  · refine lv_iload_n hx hb dX2_arm_4 rfl (lv_at hl 1 rfl) ?_
    refine lv_sipush (v := nI 500) hx hb dX2_arm_5 (by decide) ?_
    refine lv_icmp_le (tgt := 13) hx hb dX2_arm_8 (by decide) (fun (h8 : n ≤ (nI 500)) => ?_) (fun (h8 : ¬ n ≤ (nI 500)) => ?_)
    · have g8 : ¬ nI 500 < n := (by rw [Int32.lt_iff_toInt_lt]; rw [Int32.le_iff_toInt_le] at h8; omega)
      obtain ⟨k, rfl, hk0⟩ := arm_nat h1 g8
      refine lv_aload_n hx hb dX2_arm_13 rfl (lv_at hl 0 rfl) ?_
      refine lv_iload_n hx hb dX2_arm_14 rfl (lv_at hl 1 rfl) ?_
      refine rp_ar (v := k) hx hb hts hinX2 hown hK hP hD hS (hts (.fieldLink RX2 68 "FencedWordsModel" "armed" "I") (List.mem_of_getElem? (i := 1) rfl)) dX2_arm_15 (fun H locs hP hD hS => ?_)
      refine lv_aload_n hx hb dX2_arm_18 rfl (lv_at hl 0 rfl) ?_
      refine lv_lload_n hx hb dX2_arm_19 rfl (lv_at hl 2 rfl) ?_
      refine rp_mk (v := v) hx hb hts hinX2 hown hK hP hD hS (hts (.fieldLink RX2 74 "FencedWordsModel" "mask" "J") (List.mem_of_getElem? (i := 2) rfl)) dX2_arm_20 (fun H locs hP hD hS => ?_)
      refine lv_iconst (v := nI 1) hx hb dX2_arm_23 (by decide) ?_
      exact retGz hx hb hr hlocks hK hP hD hS dX2_arm_24 (by unfold armR; rw [if_neg h1, if_neg g8]; rfl) (by unfold armR; rw [if_neg h1, if_neg g8, nI_clamp (by omega)])
    · refine lv_iconst (v := nI 0) hx hb dX2_arm_11 (by decide) ?_
      exact retGz hx hb hr hlocks hK hP hD hS dX2_arm_12 (by unfold armR; rw [if_neg h1, if_pos (by rw [Int32.lt_iff_toInt_lt]; rw [Int32.le_iff_toInt_le] at h8; omega)]; rfl) (by unfold armR; rw [if_neg h1, if_pos (by rw [Int32.lt_iff_toInt_lt]; rw [Int32.le_iff_toInt_le] at h8; omega)])
theorem in_X2_X2_begin : ∀ w ∈ wsX20, w ∈ wsX2_begin := fun w h => List.mem_cons_of_mem _ (List.mem_append_right _ (h))
set_option maxHeartbeats 400000 in
set_option maxRecDepth 100000 in
theorem mX2_begin (l : Launch) (y : Nat → ClassId) (t : va_W) (b : Nat → Nat) (r : RS)  : MGi l yX2_begin wsX2_begin 0 0 [.ref (b 0)] (tyA y) (wR b y r t) ((beginR r).1) (wR b y ((beginR r).2) t) := by
  refine MGi.of (cc := cX2_begin) (maxL := 2) (by decide) rfl (Nat.le_of_ble_eq_true rfl) ?_
  intro D p e s m below meth c0 A ls hx hb hr hml hown hlocks hts hK hP hD hA hN hl hS
  have hl : lv_has ls 2 [(0, .ref (b 0))] := hl
  have hinX2 : ∀ w ∈ u_ws RX2 TX2 19, w ∈ wsX2_begin := in_X2_X2_begin
  refine lv_aload_n hx hb dX2_begin_0 rfl (lv_at hl 0 rfl) ?_
  refine rg_of hx hb hts hinX2 hown hK hP (hts (.fieldLink RX2 82 "FencedWordsModel" "off" "Z") (List.mem_of_getElem? (i := 1) rfl)) dX2_begin_1 ?_
  refine q_ifb_ne (tgt := 14) hx hb dX2_begin_4 (by decide) (fun (h4 : (r_of r) = true) => ?_) (fun (h4 : (r_of r) = false) => ?_)
  · refine lv_iconst (v := (-1)) hx hb dX2_begin_14 (by decide) ?_
    exact retGi hx hb hr hlocks hK hP hD hS dX2_begin_15 (by unfold beginR; rw [if_pos h4]) (by unfold beginR; rw [if_pos h4])
  · refine lv_aload_n hx hb dX2_begin_7 rfl (lv_at hl 0 rfl) ?_
    refine rg_op hx hb hts hinX2 hown hK hP (hts (.fieldLink RX2 86 "FencedWordsModel" "open" "Z") (List.mem_of_getElem? (i := 2) rfl)) dX2_begin_8 ?_
    refine q_ifb_eq (tgt := 16) hx hb dX2_begin_11 (by decide) (fun (h11 : (r_op r) = false) => ?_) (fun (h11 : (r_op r) = true) => ?_)
    · refine lv_aload_n hx hb dX2_begin_16 rfl (lv_at hl 0 rfl) ?_
      refine lv_iconst (v := nI 1) hx hb dX2_begin_17 (by decide) ?_
      refine rp_op (v := true) hx hb hts hinX2 hown hK hP hD hS (hts (.fieldLink RX2 86 "FencedWordsModel" "open" "Z") (List.mem_of_getElem? (i := 2) rfl)) dX2_begin_18 (fun H locs hP hD hS => ?_)
      refine lv_iconst (v := nI 0) hx hb dX2_begin_21 (by decide) ?_
      refine lv_istore_n (lv' := [(1, .int (nI 0)), (0, .ref (b 0))]) hx hb dX2_begin_22 rfl hl (by decide) rfl (fun ls hl => ?_)
      have loop : ∀ (n23 : Nat) (i : Nat) (H : Heap) (locs : List Loc) (ls : Array Slot), (i ≤ 4) → (5 ≤ i + n23) → va_P D vwCl (wR b y (rs_to (rs_op r true) (clrB (r_to r) i)) t) H → va_D A (wR b y (rs_to (rs_op r true) (clrB (r_to r) i)) t) → va_S A s.heap H locs → lv_has ls 2 [(0, .ref (b 0)), (1, .int (nI i))] → W p l e ({ frames := 0, cells := 0, slots := 0, locals := 0 }) s m [.ref (b 0)].toArray below meth c0 H locs 0 0 (GQi below D (tyA y) A ((beginR r).1) (wR b y ((beginR r).2) t) [.ref (b 0)].toArray s) (F0 m 23 ls []) := by
        intro n23
        induction n23 with
        | zero =>
          intro i H locs ls hi hn hP hD hS hl
          omega
        | succ n23 ih23 =>
          intro i H locs ls hi hn hP hD hS hl
          refine lv_iload_n hx hb dX2_begin_23 rfl (lv_at hl 1 rfl) ?_
          refine lv_iconst (v := nI 4) hx hb dX2_begin_24 (by decide) ?_
          refine q_icmp_ge (tgt := 41) hx hb (show i < 2 ^ 31 by omega) (show 4 < 2 ^ 31 by omega) dX2_begin_25 (by decide) (fun (h25 : 4 ≤ i) => ?_) (fun (h25 : i < 4) => ?_)
          · have e4 : i = 4 := by omega
            subst e4
            refine lv_iconst (v := nI 0) hx hb dX2_begin_41 (by decide) ?_
            exact retGi hx hb hr hlocks hK hP hD hS dX2_begin_42 (by unfold beginR; rw [if_neg (by rw [h4]; decide), if_neg (by rw [h11]; decide)]) (by unfold beginR; rw [if_neg (by rw [h4]; decide), if_neg (by rw [h11]; decide)])
          · refine lv_aload_n hx hb dX2_begin_28 rfl (lv_at hl 0 rfl) ?_
            refine rg_r9 hx hb hts hinX2 hown hK hP (hts (.fieldLink RX2 36 "FencedWordsModel" "touched" "[Z") (List.mem_of_getElem? (i := 3) rfl)) dX2_begin_29 ?_
            refine lv_iload_n hx hb dX2_begin_32 rfl (lv_at hl 1 rfl) ?_
            refine lv_iconst (v := nI 0) hx hb dX2_begin_33 (by decide) ?_
            refine rt_to (v := false) hx hb hK hP hD hS (show i < 4 by omega) dX2_begin_34 (fun H locs hP hD hS => ?_)
            refine lv_iinc (v := nI (i + 1)) (lv' := [(1, .int (nI (i + 1))), (0, .ref (b 0))]) hx hb dX2_begin_35 hl (k := 1) rfl (nI_add i 1) (by decide) rfl (fun ls hl => ?_)
            refine lv_goto (tgt := 23) hx hb dX2_begin_38 (by decide) ?_
            have hP : va_P D vwCl (wR b y (rs_to (rs_to (rs_op r true) (clrB (r_to r) i)) (upB (clrB (r_to r) i) i false)) t) H := hP
            have hD : va_D A (wR b y (rs_to (rs_to (rs_op r true) (clrB (r_to r) i)) (upB (clrB (r_to r) i) i false)) t) := hD
            rw [rss_to, clrB_s] at hP hD
            exact ih23 (i + 1) _ _ _ (by omega) (by omega) hP hD hS (lv_sub hl [1, 0] rfl)
      have e0 : rs_op r true = rs_to (rs_op r true) (clrB (r_to r) 0) := (by rw [clrB_0]; rfl)
      rw [e0] at hP hD
      exact loop 5 0 _ _ _ (by omega) (by omega) hP hD hS (lv_sub hl [1, 0] rfl)
    · refine lv_iconst (v := (-1)) hx hb dX2_begin_14 (by decide) ?_
      exact retGi hx hb hr hlocks hK hP hD hS dX2_begin_15 (by unfold beginR; rw [if_neg (by rw [h4]; decide), if_pos h11]) (by unfold beginR; rw [if_neg (by rw [h4]; decide), if_pos h11])
theorem in_X2_X2_snapshot : ∀ w ∈ wsX20, w ∈ wsX2_snapshot := fun w h => List.mem_cons_of_mem _ (List.mem_append_right _ (h))
set_option maxHeartbeats 400000 in
set_option maxRecDepth 100000 in
theorem mX2_snapshot (l : Launch) (y : Nat → ClassId) (t : va_W) (b : Nat → Nat) (r : RS) (x n : Int32) (hI : RI r) : MGi l yX2_snapshot wsX2_snapshot 3 65 [.ref (b 0), .int x, .int n] (tyA y) (wR b y r t) ((snapX x n r).1) (wR b y ((snapX x n r).2) t) := by
  refine MGi.of (cc := cX2_snapshot) (maxL := 5) (by decide) rfl (Nat.le_of_ble_eq_true rfl) ?_
  intro D p e s m below meth c0 A ls hx hb hr hml hown hlocks hts hK hP hD hA hN hl hS
  have hl : lv_has ls 5 [(0, .ref (b 0)), (1, .int x), (2, .int n)] := hl
  have hinX2 : ∀ w ∈ u_ws RX2 TX2 19, w ∈ wsX2_snapshot := in_X2_X2_snapshot
  have hz := hI.1
  refine lv_aload_n hx hb dX2_snapshot_0 rfl (lv_at hl 0 rfl) ?_
  refine rg_op hx hb hts hinX2 hown hK hP (hts (.fieldLink RX2 86 "FencedWordsModel" "open" "Z") (List.mem_of_getElem? (i := 1) rfl)) dX2_snapshot_1 ?_
  refine q_ifb_eq (tgt := 49) hx hb dX2_snapshot_4 (by decide) (fun (h4 : (r_op r) = false) => ?_) (fun (h4 : (r_op r) = true) => ?_)
  · refine lv_iconst (v := (-1)) hx hb dX2_snapshot_49 (by decide) ?_
    exact retGi hx hb hr hlocks hK hP hD hS dX2_snapshot_50 (by unfold snapX; rw [if_pos h4]) (by unfold snapX; rw [if_pos h4])
  · refine lv_iload_n hx hb dX2_snapshot_7 rfl (lv_at hl 2 rfl) ?_
    refine lv_iconst (v := nI 1) hx hb dX2_snapshot_8 (by decide) ?_
    refine lv_icmp_lt (tgt := 49) hx hb dX2_snapshot_9 (by decide) (fun (h9 : n < (nI 1)) => ?_) (fun (h9 : ¬ n < (nI 1)) => ?_)
    · refine lv_iconst (v := (-1)) hx hb dX2_snapshot_49 (by decide) ?_
      exact retGi hx hb hr hlocks hK hP hD hS dX2_snapshot_50 (by unfold snapX; rw [if_neg (by rw [h4]; decide), if_pos h9]) (by unfold snapX; rw [if_neg (by rw [h4]; decide), if_pos h9])
    · refine lv_iload_n hx hb dX2_snapshot_12 rfl (lv_at hl 2 rfl) ?_
      refine lv_bipush (v := nI 8) hx hb dX2_snapshot_13 (by decide) ?_
      refine lv_icmp_gt (tgt := 49) hx hb dX2_snapshot_15 (by decide) (fun (h15 : (nI 8) < n) => ?_) (fun (h15 : ¬ (nI 8) < n) => ?_)
      · refine lv_iconst (v := (-1)) hx hb dX2_snapshot_49 (by decide) ?_
        exact retGi hx hb hr hlocks hK hP hD hS dX2_snapshot_50 (by unfold snapX; rw [if_neg (by rw [h4]; decide), if_neg h9, if_pos h15]) (by unfold snapX; rw [if_neg (by rw [h4]; decide), if_neg h9, if_pos h15])
      · refine lv_iload_n hx hb dX2_snapshot_18 rfl (lv_at hl 1 rfl) ?_
        refine callSi (rest := []) ⟨hx, hb, hml, hown, hts⟩ (mX2_word l y _ x) (va_cwS 1 hts gX2_snapshot_X2_word rfl rfl rfl (by decide +kernel) ⟨Nat.le_of_ble_eq_true rfl, Nat.le_of_ble_eq_true rfl⟩) hK hP hD hS hA hN rfl hl.1 rfl (Nat.le_of_ble_eq_true rfl) dX2_snapshot_19 ⟨Nat.le_of_ble_eq_true rfl, Nat.le_of_ble_eq_true rfl⟩ (fun H locs hP hD hS => ?_)
        refine q_ifb_eq (tgt := 49) hx hb dX2_snapshot_22 (by decide) (fun (h22 : (isV x) = false) => ?_) (fun (h22 : (isV x) = true) => ?_)
        · refine lv_iconst (v := (-1)) hx hb dX2_snapshot_49 (by decide) ?_
          exact retGi hx hb hr hlocks hK hP hD hS dX2_snapshot_50 (by unfold snapX; rw [if_neg (by rw [h4]; decide), if_neg h9, if_neg h15, if_pos h22]) (by unfold snapX; rw [if_neg (by rw [h4]; decide), if_neg h9, if_neg h15, if_pos h22])
        · obtain ⟨ka, ex, q1⟩ := isV_nat h22
          have n0 : ¬ n < 0 := (by intro q; apply h9; rw [Int32.lt_iff_toInt_lt] at q ⊢; have z : (0 : Int32).toInt = 0 := rfl; have z1 : (nI 1).toInt = 1 := rfl; omega)
          obtain ⟨kn, hkn, en⟩ := nI_of n0
          rw [en] at h9 h15
          rw [ex, en] at hl
          have q2 : 1 ≤ kn := Nat.not_lt.mp (fun q => h9 ((nI_ltI hkn (by decide)).mpr q))
          have q3 : kn ≤ 8 := Nat.not_lt.mp (fun q => h15 ((nI_ltI (by decide) hkn).mpr q))
          have e33 : x + n - nI 1 = nI (ka + kn - 1) := (by rw [ex, en, nI_add, pk_sub (by omega)])
          refine lv_iload_n hx hb dX2_snapshot_25 rfl (lv_at hl 1 rfl) ?_
          refine lv_iload_n hx hb dX2_snapshot_26 rfl (lv_at hl 2 rfl) ?_
          refine q_iadd hx hb dX2_snapshot_27 ?_
          refine lv_iconst (v := nI 1) hx hb dX2_snapshot_28 (by decide) ?_
          refine q_isub hx hb (show 1 ≤ (ka + kn) by omega) dX2_snapshot_29 ?_
          refine callSi (rest := []) ⟨hx, hb, hml, hown, hts⟩ (mX2_word l y _ (nI ((ka + kn) - 1))) (va_cwS 1 hts gX2_snapshot_X2_word rfl rfl rfl (by decide +kernel) ⟨Nat.le_of_ble_eq_true rfl, Nat.le_of_ble_eq_true rfl⟩) hK hP hD hS hA hN rfl hl.1 rfl (Nat.le_of_ble_eq_true rfl) dX2_snapshot_30 ⟨Nat.le_of_ble_eq_true rfl, Nat.le_of_ble_eq_true rfl⟩ (fun H locs hP hD hS => ?_)
          refine q_ifb_eq (tgt := 49) hx hb dX2_snapshot_33 (by decide) (fun (h33 : (isV (nI ((ka + kn) - 1))) = false) => ?_) (fun (h33 : (isV (nI ((ka + kn) - 1))) = true) => ?_)
          · refine lv_iconst (v := (-1)) hx hb dX2_snapshot_49 (by decide) ?_
            exact retGi hx hb hr hlocks hK hP hD hS dX2_snapshot_50 (by unfold snapX; rw [if_neg (by rw [h4]; decide), if_neg (by rw [en]; exact h9), if_neg (by rw [en]; exact h15), if_neg (by rw [h22]; decide), e33, if_pos h33]) (by unfold snapX; rw [if_neg (by rw [h4]; decide), if_neg (by rw [en]; exact h9), if_neg (by rw [en]; exact h15), if_neg (by rw [h22]; decide), e33, if_pos h33])
          · have q4 : ka + kn ≤ 32 := (by obtain ⟨z, e, hz0⟩ := isV_nat h33; have := (nI_eq (by omega) (by omega)).mp e; omega)
            obtain ⟨i1, i2, i3, i4, i5, i6⟩ := id hI
            refine lv_aload_n hx hb dX2_snapshot_36 rfl (lv_at hl 0 rfl) ?_
            refine callVi (rest := []) ⟨hx, hb, hml, hown, hts⟩ (mX2_taken l y t b r (by first | assumption | omega)) (cwV 0 hts gX2_snapshot_X2_taken rfl rfl rfl (by decide +kernel) ⟨Nat.le_of_ble_eq_true rfl, Nat.le_of_ble_eq_true rfl⟩) (va_recv hK hP (ci := 2) (q0 := 0) rfl rfl) hK hP hD hS hA hN rfl hl.1 rfl (Nat.le_of_ble_eq_true rfl) dX2_snapshot_37 ⟨Nat.le_of_ble_eq_true rfl, Nat.le_of_ble_eq_true rfl⟩ (fun H locs hP hD hS => ?_)
            refine lv_iload_n hx hb dX2_snapshot_40 rfl (lv_at hl 2 rfl) ?_
            refine q_iadd hx hb dX2_snapshot_41 ?_
            refine lv_iconst (v := nI 1) hx hb dX2_snapshot_42 (by decide) ?_
            refine q_iadd hx hb dX2_snapshot_43 ?_
            refine lv_bipush (v := nI 40) hx hb dX2_snapshot_44 (by decide) ?_
            refine q_icmp_le (tgt := 51) hx hb (show (((takR r (r_rc r)) + kn) + 1) < 2 ^ 31 by omega) (show 40 < 2 ^ 31 by omega) dX2_snapshot_46 (by decide) (fun (h46 : (((takR r (r_rc r)) + kn) + 1) ≤ 40) => ?_) (fun (h46 : 40 < (((takR r (r_rc r)) + kn) + 1)) => ?_)
            · have q5 : r_rc r < 20 := (by omega)
              refine lv_aload_n hx hb dX2_snapshot_51 rfl (lv_at hl 0 rfl) ?_
              refine callVi (rest := []) ⟨hx, hb, hml, hown, hts⟩ (mX2_taken l y t b r (by first | assumption | omega)) (cwV 0 hts gX2_snapshot_X2_taken rfl rfl rfl (by decide +kernel) ⟨Nat.le_of_ble_eq_true rfl, Nat.le_of_ble_eq_true rfl⟩) (va_recv hK hP (ci := 2) (q0 := 0) rfl rfl) hK hP hD hS hA hN rfl hl.1 rfl (Nat.le_of_ble_eq_true rfl) dX2_snapshot_52 ⟨Nat.le_of_ble_eq_true rfl, Nat.le_of_ble_eq_true rfl⟩ (fun H locs hP hD hS => ?_)
              refine lv_aload_n hx hb dX2_snapshot_55 rfl (lv_at hl 0 rfl) ?_
              refine rg_rc hx hb hts hinX2 hown hK hP (hts (.fieldLink RX2 52 "FencedWordsModel" "records" "I") (List.mem_of_getElem? (i := 2) rfl)) dX2_snapshot_56 ?_
              refine q_isub hx hb (show (r_rc r) ≤ (takR r (r_rc r)) by omega) dX2_snapshot_59 ?_
              refine lv_istore_n (lv' := [(3, .int (nI ((takR r (r_rc r)) - (r_rc r)))), (0, .ref (b 0)), (1, .int (nI ka)), (2, .int (nI kn))]) hx hb dX2_snapshot_60 rfl hl (by decide) rfl (fun ls hl => ?_)
              refine lv_aload_n hx hb dX2_snapshot_61 rfl (lv_at hl 1 rfl) ?_
              refine rg_r4 hx hb hts hinX2 hown hK hP (hts (.fieldLink RX2 20 "FencedWordsModel" "first" "[I") (List.mem_of_getElem? (i := 3) rfl)) dX2_snapshot_62 ?_
              refine lv_aload_n hx hb dX2_snapshot_65 rfl (lv_at hl 1 rfl) ?_
              refine rg_rc hx hb hts hinX2 hown hK hP (hts (.fieldLink RX2 52 "FencedWordsModel" "records" "I") (List.mem_of_getElem? (i := 2) rfl)) dX2_snapshot_66 ?_
              refine lv_iload_n hx hb dX2_snapshot_69 rfl (lv_at hl 2 rfl) ?_
              refine rt_fi (v := ka) hx hb hK hP hD hS (show (r_rc r) < 20 by omega) dX2_snapshot_70 (fun H locs hP hD hS => ?_)
              refine lv_aload_n hx hb dX2_snapshot_71 rfl (lv_at hl 1 rfl) ?_
              refine rg_r5 hx hb hts hinX2 hown hK hP (hts (.fieldLink RX2 24 "FencedWordsModel" "many" "[I") (List.mem_of_getElem? (i := 4) rfl)) dX2_snapshot_72 ?_
              refine lv_aload_n hx hb dX2_snapshot_75 rfl (lv_at hl 1 rfl) ?_
              refine rg_rc hx hb hts hinX2 hown hK hP (hts (.fieldLink RX2 52 "FencedWordsModel" "records" "I") (List.mem_of_getElem? (i := 2) rfl)) dX2_snapshot_76 ?_
              refine lv_iload_n hx hb dX2_snapshot_79 rfl (lv_at hl 3 rfl) ?_
              refine rt_ma (v := kn) hx hb hK hP hD hS (show (r_rc r) < 20 by omega) dX2_snapshot_80 (fun H locs hP hD hS => ?_)
              refine lv_aload_n hx hb dX2_snapshot_81 rfl (lv_at hl 1 rfl) ?_
              refine rg_r6 hx hb hts hinX2 hown hK hP (hts (.fieldLink RX2 27 "FencedWordsModel" "from" "[I") (List.mem_of_getElem? (i := 5) rfl)) dX2_snapshot_82 ?_
              refine lv_aload_n hx hb dX2_snapshot_85 rfl (lv_at hl 1 rfl) ?_
              refine rg_rc hx hb hts hinX2 hown hK hP (hts (.fieldLink RX2 52 "FencedWordsModel" "records" "I") (List.mem_of_getElem? (i := 2) rfl)) dX2_snapshot_86 ?_
              refine lv_iload_n hx hb dX2_snapshot_89 rfl (lv_at hl 0 rfl) ?_
              refine rt_fr (v := (takR r (r_rc r)) - (r_rc r)) hx hb hK hP hD hS (show (r_rc r) < 20 by omega) dX2_snapshot_90 (fun H locs hP hD hS => ?_)
              refine lv_aload_n hx hb dX2_snapshot_91 rfl (lv_at hl 1 rfl) ?_
              refine rg_r7 hx hb hts hinX2 hown hK hP (hts (.fieldLink RX2 30 "FencedWordsModel" "stands" "[I") (List.mem_of_getElem? (i := 6) rfl)) dX2_snapshot_92 ?_
              refine lv_aload_n hx hb dX2_snapshot_95 rfl (lv_at hl 1 rfl) ?_
              refine rg_rc hx hb hts hinX2 hown hK hP (hts (.fieldLink RX2 52 "FencedWordsModel" "records" "I") (List.mem_of_getElem? (i := 2) rfl)) dX2_snapshot_96 ?_
              refine lv_iconst (v := nI 0) hx hb dX2_snapshot_99 (by decide) ?_
              refine rt_st (v := 0) hx hb hK hP hD hS (show (r_rc r) < 20 by omega) dX2_snapshot_100 (fun H locs hP hD hS => ?_)
              have hP : va_P D vwCl (wR b y (snHd ka kn r) t) H := hP
              have hD : va_D A (wR b y (snHd ka kn r) t) := hD
              have eS := hd_S ka kn r
              have erc := hd_rc ka kn r
              generalize hr1 : snHd ka kn r = r1 at hP hD eS erc
              have hP : va_P D vwCl (wR b y (r1) t) H := hP
              have hD : va_D A (wR b y (r1) t) := hD
              refine lv_iconst (v := nI 0) hx hb dX2_snapshot_101 (by decide) ?_
              refine lv_istore (lv' := [(4, .int (nI 0)), (3, .int (nI ((takR r (r_rc r)) - (r_rc r)))), (0, .ref (b 0)), (1, .int (nI ka)), (2, .int (nI kn))]) hx hb dX2_snapshot_102 hl (by decide) rfl (fun ls hl => ?_)
              have loop : ∀ (n104 : Nat) (i : Nat) (H : Heap) (locs : List Loc) (ls : Array Slot), (i ≤ kn) → (kn + 1 ≤ i + n104) → va_P D vwCl (wR b y (rs_ol r1 (va_cpy (r_S r1) (r_ol r1) ka (takR r (r_rc r) - r_rc r) i)) t) H → va_D A (wR b y (rs_ol r1 (va_cpy (r_S r1) (r_ol r1) ka (takR r (r_rc r) - r_rc r) i)) t) → va_S A s.heap H locs → lv_has ls 5 [(0, .ref (b 0)), (1, .int (nI ka)), (2, .int (nI kn)), (3, .int (nI (takR r (r_rc r) - r_rc r))), (4, .int (nI i))] → W p l e ({ frames := 3, cells := 0, slots := 0, locals := 65 }) s m [.ref (b 0), .int x, .int n].toArray below meth c0 H locs 0 0 (GQi below D (tyA y) A ((snapX x n r).1) (wR b y ((snapX x n r).2) t) [.ref (b 0), .int x, .int n].toArray s) (F0 m 104 ls []) := by
                intro n104
                induction n104 with
                | zero =>
                  intro i H locs ls hi hn hP hD hS hl
                  omega
                | succ n104 ih104 =>
                  intro i H locs ls hi hn hP hD hS hl
                  refine lv_iload hx hb dX2_snapshot_104 (lv_at hl 4 rfl) ?_
                  refine lv_iload_n hx hb dX2_snapshot_106 rfl (lv_at hl 2 rfl) ?_
                  refine q_icmp_ge (tgt := 134) hx hb (show i < 2 ^ 31 by omega) (show kn < 2 ^ 31 by omega) dX2_snapshot_107 (by decide) (fun (h107 : kn ≤ i) => ?_) (fun (h107 : i < kn) => ?_)
                  · have ei : i = kn := by omega
                    rw [ei] at hP hD
                    refine lv_aload_n hx hb dX2_snapshot_134 rfl (lv_at hl 0 rfl) ?_
                    refine lv_dup hx hb dX2_snapshot_135 rfl ?_
                    refine rg_rc hx hb hts hinX2 hown hK hP (hts (.fieldLink RX2 52 "FencedWordsModel" "records" "I") (List.mem_of_getElem? (i := 2) rfl)) dX2_snapshot_136 ?_
                    refine lv_iconst (v := nI 1) hx hb dX2_snapshot_139 (by decide) ?_
                    refine q_iadd hx hb dX2_snapshot_140 ?_
                    refine rp_rc (v := (r_rc r1) + 1) hx hb hts hinX2 hown hK hP hD hS (hts (.fieldLink RX2 52 "FencedWordsModel" "records" "I") (List.mem_of_getElem? (i := 2) rfl)) dX2_snapshot_141 (fun H locs hP hD hS => ?_)
                    refine lv_aload_n hx hb dX2_snapshot_144 rfl (lv_at hl 0 rfl) ?_
                    refine lv_iconst (v := nI 0) hx hb dX2_snapshot_145 (by decide) ?_
                    refine rp_ac (v := 0) hx hb hts hinX2 hown hK hP hD hS (hts (.fieldLink RX2 48 "FencedWordsModel" "acts" "I") (List.mem_of_getElem? (i := 9) rfl)) dX2_snapshot_146 (fun H locs hP hD hS => ?_)
                    have hP : va_P D vwCl (wR b y (rs_ac (rs_rc (rs_ol r1 (va_cpy (r_S r1) (r_ol r1) ka (takR r (r_rc r) - r_rc r) kn)) (r_rc r1 + 1)) 0) t) H := hP
                    have hD : va_D A (wR b y (rs_ac (rs_rc (rs_ol r1 (va_cpy (r_S r1) (r_ol r1) ka (takR r (r_rc r) - r_rc r) kn)) (r_rc r1 + 1)) 0) t) := hD
                    have hr4 : snX ka kn r = rs_ac (rs_rc (rs_ol r1 (va_cpy (r_S r1) (r_ol r1) ka (takR r (r_rc r) - r_rc r) kn)) (r_rc r1 + 1)) 0 := (by unfold snX; rw [hr1])
                    rw [← hr4] at hP hD
                    have eac := sx_ac ka kn r
                    have hO : AOK (listAll (snL kn (kn + 4)) (snX ka kn r)) := AOK_sn hI q3 q5
                    refine lv_iconst (v := nI 1) hx hb dX2_snapshot_149 (by decide) ?_
                    refine lv_istore (lv' := [(4, .int (nI 1)), (0, .ref (b 0)), (1, .int (nI ka)), (2, .int (nI kn)), (3, .int (nI (takR r (r_rc r) - r_rc r)))]) hx hb dX2_snapshot_150 hl (by decide) rfl (fun ls hl => ?_)
                    have loop2 : ∀ (n152 : Nat) (j : Nat) (H : Heap) (locs : List Loc) (ls : Array Slot), (j ≤ kn + 4) → (kn + 5 ≤ j + n152) → va_P D vwCl (wR b y (listAll (snL kn j) (snX ka kn r)) t) H → va_D A (wR b y (listAll (snL kn j) (snX ka kn r)) t) → va_S A s.heap H locs → lv_has ls 5 [(0, .ref (b 0)), (2, .int (nI kn)), (4, .int (nI (j + 1)))] → W p l e ({ frames := 3, cells := 0, slots := 0, locals := 65 }) s m [.ref (b 0), .int x, .int n].toArray below meth c0 H locs 0 0 (GQi below D (tyA y) A ((snapX x n r).1) (wR b y ((snapX x n r).2) t) [.ref (b 0), .int x, .int n].toArray s) (F0 m 152 ls []) := by
                      intro n152
                      induction n152 with
                      | zero =>
                        intro j H locs ls hj hm hP hD hS hl
                        omega
                      | succ n152 ih152 =>
                        intro j H locs ls hj hm hP hD hS hl
                        refine lv_iload hx hb dX2_snapshot_152 (lv_at hl 2 rfl) ?_
                        refine lv_iload_n hx hb dX2_snapshot_154 rfl (lv_at hl 1 rfl) ?_
                        refine lv_iconst (v := nI 4) hx hb dX2_snapshot_155 (by decide) ?_
                        refine q_iadd hx hb dX2_snapshot_156 ?_
                        refine q_icmp_gt (tgt := 197) hx hb (show (j + 1) < 2 ^ 31 by omega) (show (kn + 4) < 2 ^ 31 by omega) dX2_snapshot_157 (by decide) (fun (h157 : (kn + 4) < (j + 1)) => ?_) (fun (h157 : (j + 1) ≤ (kn + 4)) => ?_)
                        · have ej : j = kn + 4 := by omega
                          subst ej
                          refine lv_aload_n hx hb dX2_snapshot_197 rfl (lv_at hl 0 rfl) ?_
                          refine callVi (rest := []) ⟨hx, hb, hml, hown, hts⟩ (mX2_go l y t b (listAll (snL kn (kn + 4)) (snX ka kn r)) hO) (cwV 0 hts gX2_snapshot_X2_go rfl rfl rfl (by decide +kernel) ⟨Nat.le_of_ble_eq_true rfl, Nat.le_of_ble_eq_true rfl⟩) (va_recv hK hP (ci := 2) (q0 := 0) rfl rfl) hK hP hD hS hA hN rfl hl.1 rfl (Nat.le_of_ble_eq_true rfl) dX2_snapshot_198 ⟨Nat.le_of_ble_eq_true rfl, Nat.le_of_ble_eq_true rfl⟩ (fun H locs hP hD hS => ?_)
                          generalize hc1 : (goF (listAll (snL kn (kn + 4)) (snX ka kn r))).2 = c1 at hP hD
                          have hP : va_P D vwCl (wR b y c1 t) H := hP
                          have hD : va_D A (wR b y c1 t) := hD
                          exact retGi hx hb hr hlocks hK hP hD hS dX2_snapshot_201 (by unfold snapX; rw [if_neg (by rw [h4]; decide), if_neg (by rw [en]; exact h9), if_neg (by rw [en]; exact h15), if_neg (by rw [h22]; decide), e33, if_neg (by rw [h33]; decide), show n.toNatClampNeg = kn by rw [en]; exact nI_clamp (by omega), if_neg (by omega), show x.toNatClampNeg = ka by rw [ex]; exact nI_clamp (by omega)]; rfl) (by unfold snapX; rw [if_neg (by rw [h4]; decide), if_neg (by rw [en]; exact h9), if_neg (by rw [en]; exact h15), if_neg (by rw [h22]; decide), e33, if_neg (by rw [h33]; decide), show n.toNatClampNeg = kn by rw [en]; exact nI_clamp (by omega), if_neg (by omega), show x.toNatClampNeg = ka by rw [ex]; exact nI_clamp (by omega)]; show _ = wR b y (goF _).2 t; rw [hc1])
                        · have hac : r_ac (listAll (snL kn j) (snX ka kn r)) < 64 := (by rw [la_f_ac, eac, snL_len]; omega)
                          refine lv_aload_n hx hb dX2_snapshot_160 rfl (lv_at hl 0 rfl) ?_
                          refine lv_iload hx hb dX2_snapshot_161 (lv_at hl 2 rfl) ?_
                          refine lv_iload_n hx hb dX2_snapshot_163 rfl (lv_at hl 1 rfl) ?_
                          refine lv_iconst (v := nI 2) hx hb dX2_snapshot_164 (by decide) ?_
                          refine q_iadd hx hb dX2_snapshot_165 ?_
                          refine q_icmp_ne (tgt := 173) hx hb (show (j + 1) < 2 ^ 31 by omega) (show (kn + 2) < 2 ^ 31 by omega) dX2_snapshot_166 (by decide) (fun (h166 : ¬ (j + 1) = (kn + 2)) => ?_) (fun (h166 : (j + 1) = (kn + 2)) => ?_)
                          · refine lv_iload hx hb dX2_snapshot_173 (lv_at hl 2 rfl) ?_
                            refine lv_iload_n hx hb dX2_snapshot_175 rfl (lv_at hl 1 rfl) ?_
                            refine lv_iconst (v := nI 4) hx hb dX2_snapshot_176 (by decide) ?_
                            refine q_iadd hx hb dX2_snapshot_177 ?_
                            refine q_icmp_ne (tgt := 185) hx hb (show (j + 1) < 2 ^ 31 by omega) (show (kn + 4) < 2 ^ 31 by omega) dX2_snapshot_178 (by decide) (fun (h178 : ¬ (j + 1) = (kn + 4)) => ?_) (fun (h178 : (j + 1) = (kn + 4)) => ?_)
                            · refine lv_iconst (v := nI 0) hx hb dX2_snapshot_185 (by decide) ?_
                              refine lv_iconst (v := nI 0) hx hb dX2_snapshot_186 (by decide) ?_
                              refine lv_lconst (v := 0) hx hb dX2_snapshot_187 (by decide) ?_
                              refine callVv (rest := []) ⟨hx, hb, hml, hown, hts⟩ (mX2_list l y t b (listAll (snL kn j) (snX ka kn r)) 0 0 0 (by first | assumption | omega)) (cwV 3 hts gX2_snapshot_X2_list rfl rfl rfl (by decide +kernel) ⟨Nat.le_of_ble_eq_true rfl, Nat.le_of_ble_eq_true rfl⟩) (va_recv hK hP (ci := 2) (q0 := 0) rfl rfl) hK hP hD hS hA hN rfl hl.1 rfl (Nat.le_of_ble_eq_true rfl) dX2_snapshot_188 ⟨Nat.le_of_ble_eq_true rfl, Nat.le_of_ble_eq_true rfl⟩ (fun H locs hP hD hS => ?_)
                              refine lv_iinc (v := nI (j + 1 + 1)) (lv' := [(4, .int (nI (j + 1 + 1))), (0, .ref (b 0)), (2, .int (nI kn))]) hx hb dX2_snapshot_191 hl (k := 2) rfl (nI_add (j + 1) 1) (by decide) rfl (fun ls hl => ?_)
                              refine lv_goto (tgt := 152) hx hb dX2_snapshot_194 (by decide) ?_
                              have ec : snC kn (j + 1) = 0 := (by unfold snC; rw [if_neg h166, if_neg h178])
                              have e1 : listA 0 0 0 (listAll (snL kn j) (snX ka kn r)) = listAll (snL kn (j + 1)) (snX ka kn r) := (by rw [la_snoc]; show _ = listAll (snL kn j ++ [(snC kn (j + 1), 0, 0)]) _; rw [ec])
                              rw [e1] at hP hD
                              exact ih152 (j + 1) _ _ _ (by omega) (by omega) hP hD hS (lv_sub hl [1, 2, 0] rfl)
                            · refine lv_iconst (v := nI 5) hx hb dX2_snapshot_181 (by decide) ?_
                              refine lv_goto (tgt := 186) hx hb dX2_snapshot_182 (by decide) ?_
                              refine lv_iconst (v := nI 0) hx hb dX2_snapshot_186 (by decide) ?_
                              refine lv_lconst (v := 0) hx hb dX2_snapshot_187 (by decide) ?_
                              refine callVv (rest := []) ⟨hx, hb, hml, hown, hts⟩ (mX2_list l y t b (listAll (snL kn j) (snX ka kn r)) 5 0 0 (by first | assumption | omega)) (cwV 3 hts gX2_snapshot_X2_list rfl rfl rfl (by decide +kernel) ⟨Nat.le_of_ble_eq_true rfl, Nat.le_of_ble_eq_true rfl⟩) (va_recv hK hP (ci := 2) (q0 := 0) rfl rfl) hK hP hD hS hA hN rfl hl.1 rfl (Nat.le_of_ble_eq_true rfl) dX2_snapshot_188 ⟨Nat.le_of_ble_eq_true rfl, Nat.le_of_ble_eq_true rfl⟩ (fun H locs hP hD hS => ?_)
                              refine lv_iinc (v := nI (j + 1 + 1)) (lv' := [(4, .int (nI (j + 1 + 1))), (0, .ref (b 0)), (2, .int (nI kn))]) hx hb dX2_snapshot_191 hl (k := 2) rfl (nI_add (j + 1) 1) (by decide) rfl (fun ls hl => ?_)
                              refine lv_goto (tgt := 152) hx hb dX2_snapshot_194 (by decide) ?_
                              have ec : snC kn (j + 1) = 5 := (by unfold snC; rw [if_neg h166, if_pos h178])
                              have e1 : listA 5 0 0 (listAll (snL kn j) (snX ka kn r)) = listAll (snL kn (j + 1)) (snX ka kn r) := (by rw [la_snoc]; show _ = listAll (snL kn j ++ [(snC kn (j + 1), 0, 0)]) _; rw [ec])
                              rw [e1] at hP hD
                              exact ih152 (j + 1) _ _ _ (by omega) (by omega) hP hD hS (lv_sub hl [1, 2, 0] rfl)
                          · refine lv_iconst (v := nI 4) hx hb dX2_snapshot_169 (by decide) ?_
                            refine lv_goto (tgt := 186) hx hb dX2_snapshot_170 (by decide) ?_
                            refine lv_iconst (v := nI 0) hx hb dX2_snapshot_186 (by decide) ?_
                            refine lv_lconst (v := 0) hx hb dX2_snapshot_187 (by decide) ?_
                            refine callVv (rest := []) ⟨hx, hb, hml, hown, hts⟩ (mX2_list l y t b (listAll (snL kn j) (snX ka kn r)) 4 0 0 (by first | assumption | omega)) (cwV 3 hts gX2_snapshot_X2_list rfl rfl rfl (by decide +kernel) ⟨Nat.le_of_ble_eq_true rfl, Nat.le_of_ble_eq_true rfl⟩) (va_recv hK hP (ci := 2) (q0 := 0) rfl rfl) hK hP hD hS hA hN rfl hl.1 rfl (Nat.le_of_ble_eq_true rfl) dX2_snapshot_188 ⟨Nat.le_of_ble_eq_true rfl, Nat.le_of_ble_eq_true rfl⟩ (fun H locs hP hD hS => ?_)
                            refine lv_iinc (v := nI (j + 1 + 1)) (lv' := [(4, .int (nI (j + 1 + 1))), (0, .ref (b 0)), (2, .int (nI kn))]) hx hb dX2_snapshot_191 hl (k := 2) rfl (nI_add (j + 1) 1) (by decide) rfl (fun ls hl => ?_)
                            refine lv_goto (tgt := 152) hx hb dX2_snapshot_194 (by decide) ?_
                            have ec : snC kn (j + 1) = 4 := (by unfold snC; rw [if_pos h166])
                            have e1 : listA 4 0 0 (listAll (snL kn j) (snX ka kn r)) = listAll (snL kn (j + 1)) (snX ka kn r) := (by rw [la_snoc]; show _ = listAll (snL kn j ++ [(snC kn (j + 1), 0, 0)]) _; rw [ec])
                            rw [e1] at hP hD
                            exact ih152 (j + 1) _ _ _ (by omega) (by omega) hP hD hS (lv_sub hl [1, 2, 0] rfl)
                    have e0 : snX ka kn r = listAll (snL kn 0) (snX ka kn r) := rfl
                    rw [e0] at hP hD
                    exact loop2 (kn + 5) 0 _ _ _ (by omega) (by omega) hP hD hS (lv_sub hl [1, 3, 0] rfl)
                  · refine lv_aload_n hx hb dX2_snapshot_110 rfl (lv_at hl 0 rfl) ?_
                    refine rg_r8 hx hb hts hinX2 hown hK hP (hts (.fieldLink RX2 33 "FencedWordsModel" "old" "[J") (List.mem_of_getElem? (i := 7) rfl)) dX2_snapshot_111 ?_
                    refine lv_iload_n hx hb dX2_snapshot_114 rfl (lv_at hl 3 rfl) ?_
                    refine lv_iload hx hb dX2_snapshot_115 (lv_at hl 4 rfl) ?_
                    refine q_iadd hx hb dX2_snapshot_117 ?_
                    refine lv_aload_n hx hb dX2_snapshot_118 rfl (lv_at hl 0 rfl) ?_
                    refine rg_r1 hx hb hts hinX2 hown hK hP (hts (.fieldLink RX2 7 "FencedWordsModel" "seen" "[J") (List.mem_of_getElem? (i := 8) rfl)) dX2_snapshot_119 ?_
                    refine lv_iload_n hx hb dX2_snapshot_122 rfl (lv_at hl 1 rfl) ?_
                    refine lv_iload hx hb dX2_snapshot_123 (lv_at hl 4 rfl) ?_
                    refine q_iadd hx hb dX2_snapshot_125 ?_
                    refine rl_S hx hb hK hP (show (ka + i) < 32 by omega) dX2_snapshot_126 ?_
                    refine rt_ol (v := r_S r1 (ka + i)) hx hb hK hP hD hS (show ((takR r (r_rc r) - r_rc r) + i) < 40 by omega) dX2_snapshot_127 (fun H locs hP hD hS => ?_)
                    refine lv_iinc (v := nI (i + 1)) (lv' := [(4, .int (nI (i + 1))), (0, .ref (b 0)), (1, .int (nI ka)), (2, .int (nI kn)), (3, .int (nI (takR r (r_rc r) - r_rc r)))]) hx hb dX2_snapshot_128 hl (k := 4) rfl (nI_add i 1) (by decide) rfl (fun ls hl => ?_)
                    refine lv_goto (tgt := 104) hx hb dX2_snapshot_131 (by decide) ?_
                    have hP : va_P D vwCl (wR b y (rs_ol (rs_ol r1 (va_cpy (r_S r1) (r_ol r1) ka (takR r (r_rc r) - r_rc r) i)) (vp_updL (va_cpy (r_S r1) (r_ol r1) ka (takR r (r_rc r) - r_rc r) i) ((takR r (r_rc r) - r_rc r) + i) (r_S r1 (ka + i)))) t) H := hP
                    have hD : va_D A (wR b y (rs_ol (rs_ol r1 (va_cpy (r_S r1) (r_ol r1) ka (takR r (r_rc r) - r_rc r) i)) (vp_updL (va_cpy (r_S r1) (r_ol r1) ka (takR r (r_rc r) - r_rc r) i) ((takR r (r_rc r) - r_rc r) + i) (r_S r1 (ka + i)))) t) := hD
                    rw [rss_ol, cpy_s] at hP hD
                    exact ih104 (i + 1) _ _ _ (by omega) (by omega) hP hD hS (lv_sub hl [1, 2, 3, 4, 0] rfl)
              have e0 : r1 = rs_ol r1 (va_cpy (r_S r1) (r_ol r1) ka (takR r (r_rc r) - r_rc r) 0) := (by rw [cpy_0]; rfl)
              rw [e0] at hP hD
              exact loop (kn + 1) 0 _ _ _ (by omega) (by omega) hP hD hS (lv_sub hl [2, 3, 4, 1, 0] rfl)
            · refine lv_iconst (v := (-1)) hx hb dX2_snapshot_49 (by decide) ?_
              exact retGi hx hb hr hlocks hK hP hD hS dX2_snapshot_50 (by unfold snapX; rw [if_neg (by rw [h4]; decide), if_neg (by rw [en]; exact h9), if_neg (by rw [en]; exact h15), if_neg (by rw [h22]; decide), e33, if_neg (by rw [h33]; decide), show n.toNatClampNeg = kn by rw [en]; exact nI_clamp (by omega), if_pos h46]) (by unfold snapX; rw [if_neg (by rw [h4]; decide), if_neg (by rw [en]; exact h9), if_neg (by rw [en]; exact h15), if_neg (by rw [h22]; decide), e33, if_neg (by rw [h33]; decide), show n.toNatClampNeg = kn by rw [en]; exact nI_clamp (by omega), if_pos h46])
