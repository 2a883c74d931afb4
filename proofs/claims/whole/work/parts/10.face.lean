theorem in_X1_X1_arm : ∀ w ∈ wsX10, w ∈ wsX1_arm := fun w h => List.mem_cons_of_mem _ (List.mem_append_right _ (h))
set_option maxHeartbeats 400000 in
set_option maxRecDepth 100000 in
theorem mX1_arm (l : Launch) (y : Nat → ClassId) (t : va_W) (a : Nat → Nat) (c : CS) (n : Int32) (v : Int64)  : MGi l yX1_arm wsX1_arm 0 0 [.ref (a 0), .int n, .long v] (tyA y) (wC a y c t) (bI ((armF n v c).1)) (wC a y ((armF n v c).2) t) := by
  refine MGi.of (cc := cX1_arm) (maxL := 4) (by decide) rfl (Nat.le_of_ble_eq_true rfl) ?_
  intro D p e s m below meth c0 A ls hx hb hr hml hown hlocks hts hK hP hD hA hN hl hS
  have hl : lv_has ls 4 [(0, .ref (a 0)), (1, .int n), (2, .long v)] := hl
  have hinX1 : ∀ w ∈ u_ws RX1 TX1 10, w ∈ wsX1_arm := in_X1_X1_arm
  refine lv_iload_n hx hb dX1_arm_0 rfl (lv_at hl 1 rfl) ?_
  refine lv_if_lt (tgt := 11) hx hb dX1_arm_1 (by decide) (fun (h1 : n < 0) => ?_) (fun (h1 : ¬ n < 0) => ?_)
  · refine lv_iconst (v := nI 0) hx hb dX1_arm_11 (by decide) ?_
    exact retGz hx hb hr hlocks hK hP hD hS dX1_arm_12 (by unfold armF; rw [if_pos h1]; rfl) (by unfold armF; rw [if_pos h1])
  · refine lv_iload_n hx hb dX1_arm_4 rfl (lv_at hl 1 rfl) ?_
    refine lv_sipush (v := nI 500) hx hb dX1_arm_5 (by decide) ?_
    refine lv_icmp_le (tgt := 13) hx hb dX1_arm_8 (by decide) (fun (h8 : n ≤ (nI 500)) => ?_) (fun (h8 : ¬ n ≤ (nI 500)) => ?_)
    · have g8 : ¬ nI 500 < n := (by rw [Int32.lt_iff_toInt_lt]; rw [Int32.le_iff_toInt_le] at h8; omega)
      obtain ⟨k, rfl, hk0⟩ := arm_nat h1 g8
      refine lv_aload_n hx hb dX1_arm_13 rfl (lv_at hl 0 rfl) ?_
      refine lv_iload_n hx hb dX1_arm_14 rfl (lv_at hl 1 rfl) ?_
      refine cp_au (v := k) hx hb hts hinX1 hown hK hP hD hS (hts (.fieldLink RX1 27 "FencedWords" "actsUntilLoss" "I") (List.mem_of_getElem? (i := 1) rfl)) dX1_arm_15 (fun H locs hP hD hS => ?_)
      refine lv_aload_n hx hb dX1_arm_18 rfl (lv_at hl 0 rfl) ?_
      refine lv_lload_n hx hb dX1_arm_19 rfl (lv_at hl 2 rfl) ?_
      refine cp_mk (v := v) hx hb hts hinX1 hown hK hP hD hS (hts (.fieldLink RX1 31 "FencedWords" "maskOfLoss" "J") (List.mem_of_getElem? (i := 2) rfl)) dX1_arm_20 (fun H locs hP hD hS => ?_)
      refine lv_iconst (v := nI 1) hx hb dX1_arm_23 (by decide) ?_
      exact retGz hx hb hr hlocks hK hP hD hS dX1_arm_24 (by unfold armF; rw [if_neg h1, if_neg g8]; rfl) (by unfold armF; rw [if_neg h1, if_neg g8, nI_clamp (by omega)])
    · refine lv_iconst (v := nI 0) hx hb dX1_arm_11 (by decide) ?_
      exact retGz hx hb hr hlocks hK hP hD hS dX1_arm_12 (by unfold armF; rw [if_neg h1, if_pos (by rw [Int32.lt_iff_toInt_lt]; rw [Int32.le_iff_toInt_le] at h8; omega)]; rfl) (by unfold armF; rw [if_neg h1, if_pos (by rw [Int32.lt_iff_toInt_lt]; rw [Int32.le_iff_toInt_le] at h8; omega)])
theorem in_X1_X1_begin : ∀ w ∈ wsX10, w ∈ wsX1_begin := fun w h => List.mem_cons_of_mem _ (List.mem_append_right _ (h))
set_option maxHeartbeats 400000 in
set_option maxRecDepth 100000 in
theorem mX1_begin (l : Launch) (y : Nat → ClassId) (t : va_W) (a : Nat → Nat) (c : CS)  : MGi l yX1_begin wsX1_begin 0 0 [.ref (a 0)] (tyA y) (wC a y c t) ((beginF c).1) (wC a y ((beginF c).2) t) := by
  refine MGi.of (cc := cX1_begin) (maxL := 1) (by decide) rfl (Nat.le_of_ble_eq_true rfl) ?_
  intro D p e s m below meth c0 A ls hx hb hr hml hown hlocks hts hK hP hD hA hN hl hS
  have hl : lv_has ls 1 [(0, .ref (a 0))] := hl
  have hinX1 : ∀ w ∈ u_ws RX1 TX1 10, w ∈ wsX1_begin := in_X1_X1_begin
  refine lv_aload_n hx hb dX1_begin_0 rfl (lv_at hl 0 rfl) ?_
  refine cg_on hx hb hts hinX1 hown hK hP (hts (.fieldLink RX1 23 "FencedWords" "powerOn" "Z") (List.mem_of_getElem? (i := 1) rfl)) dX1_begin_1 ?_
  refine q_ifb_eq (tgt := 14) hx hb dX1_begin_4 (by decide) (fun (h4 : (c_on c) = false) => ?_) (fun (h4 : (c_on c) = true) => ?_)
  · refine lv_iconst (v := (-1)) hx hb dX1_begin_14 (by decide) ?_
    exact retGi hx hb hr hlocks hK hP hD hS dX1_begin_15 (by unfold beginF; rw [if_pos h4]) (by unfold beginF; rw [if_pos h4])
  · refine lv_aload_n hx hb dX1_begin_7 rfl (lv_at hl 0 rfl) ?_
    refine cg_op hx hb hts hinX1 hown hK hP (hts (.fieldLink RX1 35 "FencedWords" "transactionOpen" "Z") (List.mem_of_getElem? (i := 2) rfl)) dX1_begin_8 ?_
    refine q_ifb_eq (tgt := 16) hx hb dX1_begin_11 (by decide) (fun (h11 : (c_op c) = false) => ?_) (fun (h11 : (c_op c) = true) => ?_)
    · refine lv_aload_n hx hb dX1_begin_16 rfl (lv_at hl 0 rfl) ?_
      refine lv_iconst (v := nI 1) hx hb dX1_begin_17 (by decide) ?_
      refine cp_op (v := true) hx hb hts hinX1 hown hK hP hD hS (hts (.fieldLink RX1 35 "FencedWords" "transactionOpen" "Z") (List.mem_of_getElem? (i := 2) rfl)) dX1_begin_18 (fun H locs hP hD hS => ?_)
      refine lv_aload_n hx hb dX1_begin_21 rfl (lv_at hl 0 rfl) ?_
      refine lv_iconst (v := nI 0) hx hb dX1_begin_22 (by decide) ?_
      refine cp_sl (v := nI 0) hx hb hts hinX1 hown hK hP hD hS (hts (.fieldLink RX1 38 "FencedWords" "storedLines" "I") (List.mem_of_getElem? (i := 3) rfl)) dX1_begin_23 (fun H locs hP hD hS => ?_)
      refine lv_iconst (v := nI 0) hx hb dX1_begin_26 (by decide) ?_
      exact retGi hx hb hr hlocks hK hP hD hS dX1_begin_27 (by unfold beginF; rw [if_neg (by rw [h4]; decide), if_neg (by rw [h11]; decide)]) (by unfold beginF; rw [if_neg (by rw [h4]; decide), if_neg (by rw [h11]; decide)])
    · refine lv_iconst (v := (-1)) hx hb dX1_begin_14 (by decide) ?_
      exact retGi hx hb hr hlocks hK hP hD hS dX1_begin_15 (by unfold beginF; rw [if_neg (by rw [h4]; decide), if_pos h11]) (by unfold beginF; rw [if_neg (by rw [h4]; decide), if_pos h11])
theorem in_X1_X1_snapshot : ∀ w ∈ wsX10, w ∈ wsX1_snapshot := fun w h => List.mem_cons_of_mem _ (List.mem_append_left _ (List.mem_append_right _ (h)))
set_option maxHeartbeats 400000 in
set_option maxRecDepth 100000 in
theorem mX1_snapshot (l : Launch) (y : Nat → ClassId) (t : va_W) (a : Nat → Nat) (c : CS) (x n : Int32) (hF : SF c) (ht : c_tk c ≤ 40) (h2z : 2 * c_sz c ≤ c_tk c) : MGi l yX1_snapshot wsX1_snapshot 5 108 [.ref (a 0), .int x, .int n] (tyA y) (wC a y c t) ((snapF x n c).1) (wC a y ((snapF x n c).2) t) := by
  refine MGi.of (cc := cX1_snapshot) (maxL := 3) (by decide) rfl (Nat.le_of_ble_eq_true rfl) ?_
  intro D p e s m below meth c0 A ls hx hb hr hml hown hlocks hts hK hP hD hA hN hl hS
  have hl : lv_has ls 3 [(0, .ref (a 0)), (1, .int x), (2, .int n)] := hl
  have hinX1 : ∀ w ∈ u_ws RX1 TX1 10, w ∈ wsX1_snapshot := in_X1_X1_snapshot
  refine lv_aload_n hx hb dX1_snapshot_0 rfl (lv_at hl 0 rfl) ?_
  refine cg_op hx hb hts hinX1 hown hK hP (hts (.fieldLink RX1 35 "FencedWords" "transactionOpen" "Z") (List.mem_of_getElem? (i := 1) rfl)) dX1_snapshot_1 ?_
  refine q_ifb_eq (tgt := 26) hx hb dX1_snapshot_4 (by decide) (fun (h4 : (c_op c) = false) => ?_) (fun (h4 : (c_op c) = true) => ?_)
  · refine lv_iconst (v := (-1)) hx hb dX1_snapshot_26 (by decide) ?_
    exact retGi hx hb hr hlocks hK hP hD hS dX1_snapshot_27 (by unfold snapF; rw [if_pos h4]) (by unfold snapF; rw [if_pos h4])
  · refine lv_iload_n hx hb dX1_snapshot_7 rfl (lv_at hl 1 rfl) ?_
    refine lv_iload_n hx hb dX1_snapshot_8 rfl (lv_at hl 2 rfl) ?_
    refine callSi (rest := []) ⟨hx, hb, hml, hown, hts⟩ (mX1_areWords l y _ x n) (va_cwS 2 hts gX1_snapshot_X1_areWords rfl rfl rfl (by decide +kernel) ⟨Nat.le_of_ble_eq_true rfl, Nat.le_of_ble_eq_true rfl⟩) hK hP hD hS hA hN rfl hl.1 rfl (Nat.le_of_ble_eq_true rfl) dX1_snapshot_9 ⟨Nat.le_of_ble_eq_true rfl, Nat.le_of_ble_eq_true rfl⟩ (fun H locs hP hD hS => ?_)
    refine q_ifb_eq (tgt := 26) hx hb dX1_snapshot_12 (by decide) (fun (h12 : (areW x n) = false) => ?_) (fun (h12 : (areW x n) = true) => ?_)
    · refine lv_iconst (v := (-1)) hx hb dX1_snapshot_26 (by decide) ?_
      exact retGi hx hb hr hlocks hK hP hD hS dX1_snapshot_27 (by unfold snapF; rw [if_neg (by rw [h4]; decide), if_pos h12]) (by unfold snapF; rw [if_neg (by rw [h4]; decide), if_pos h12])
    · obtain ⟨ka, kn, rfl, rfl, q1, q2, q3⟩ := areW_nat h12
      refine lv_aload_n hx hb dX1_snapshot_15 rfl (lv_at hl 0 rfl) ?_
      refine cg_r3 hx hb hts hinX1 hown hK hP (hts (.fieldLink RX1 19 "FencedWords" "log" "LFencedWords$Log;") (List.mem_of_getElem? (i := 2) rfl)) dX1_snapshot_16 ?_
      refine lv_iload_n hx hb dX1_snapshot_19 rfl (lv_at hl 2 rfl) ?_
      refine callVi (rest := []) ⟨hx, hb, hml, hown, hts⟩ (mX0_hasRoomFor l y t a c kn (by omega) (by assumption)) (cwV 1 hts gX1_snapshot_X0_hasRoomFor rfl rfl rfl (by decide +kernel) ⟨Nat.le_of_ble_eq_true rfl, Nat.le_of_ble_eq_true rfl⟩) (va_recv hK hP (ci := 0) (q0 := 3) rfl rfl) hK hP hD hS hA hN rfl hl.1 rfl (Nat.le_of_ble_eq_true rfl) dX1_snapshot_20 ⟨Nat.le_of_ble_eq_true rfl, Nat.le_of_ble_eq_true rfl⟩ (fun H locs hP hD hS => ?_)
      refine q_ifb_ne (tgt := 28) hx hb dX1_snapshot_23 (by decide) (fun (h23 : (roomF c kn) = true) => ?_) (fun (h23 : (roomF c kn) = false) => ?_)
      · have hr1 : kn + 1 ≤ 40 - c_tk c := (by have q := h23; unfold roomF at q; exact of_decide_eq_true q)
        have hB := hF.1
        have g2 : c_sz c < 20 := (by omega)
        have g3 : c_tk c + 1 + kn ≤ 40 := (by omega)
        refine lv_aload_n hx hb dX1_snapshot_28 rfl (lv_at hl 0 rfl) ?_
        refine lv_iload_n hx hb dX1_snapshot_29 rfl (lv_at hl 1 rfl) ?_
        refine lv_iload_n hx hb dX1_snapshot_30 rfl (lv_at hl 2 rfl) ?_
        refine callVi (rest := []) ⟨hx, hb, hml, hown, hts⟩ (mX1_append l y t a c ka kn (by assumption) (by omega) (by omega) (by assumption) (by assumption)) (cwV 2 hts gX1_snapshot_X1_append rfl rfl rfl (by decide +kernel) ⟨Nat.le_of_ble_eq_true rfl, Nat.le_of_ble_eq_true rfl⟩) (va_recv hK hP (ci := 1) (q0 := 0) rfl rfl) hK hP hD hS hA hN rfl hl.1 rfl (Nat.le_of_ble_eq_true rfl) dX1_snapshot_31 ⟨Nat.le_of_ble_eq_true rfl, Nat.le_of_ble_eq_true rfl⟩ (fun H locs hP hD hS => ?_)
        generalize hc1 : (appendF ka kn c).2 = c1 at hP hD
        have hP : va_P D vwCl (wC a y c1 t) H := hP
        have hD : va_D A (wC a y c1 t) := hD
        refine q_ifb_eq (tgt := 41) hx hb dX1_snapshot_34 (by decide) (fun (h34 : ((appendF ka kn c).1) = false) => ?_) (fun (h34 : ((appendF ka kn c).1) = true) => ?_)
        · refine lv_bipush (v := (-2)) hx hb dX1_snapshot_41 (by decide) ?_
          exact retGi hx hb hr hlocks hK hP hD hS dX1_snapshot_43 (by unfold snapF; rw [if_neg (by rw [h4]; decide), if_neg (by rw [h12]; decide), nI_clamp (n := kn) (by omega), if_neg (by rw [h23]; decide), nI_clamp (n := ka) (by omega)]; simp only [h34]; rfl) (by unfold snapF; rw [if_neg (by rw [h4]; decide), if_neg (by rw [h12]; decide), nI_clamp (n := kn) (by omega), if_neg (by rw [h23]; decide), nI_clamp (n := ka) (by omega), ← hc1])
        · refine lv_iconst (v := nI 0) hx hb dX1_snapshot_37 (by decide) ?_
          refine lv_goto (tgt := 43) hx hb dX1_snapshot_38 (by decide) ?_
          exact retGi hx hb hr hlocks hK hP hD hS dX1_snapshot_43 (by unfold snapF; rw [if_neg (by rw [h4]; decide), if_neg (by rw [h12]; decide), nI_clamp (n := kn) (by omega), if_neg (by rw [h23]; decide), nI_clamp (n := ka) (by omega)]; simp only [h34]; rfl) (by unfold snapF; rw [if_neg (by rw [h4]; decide), if_neg (by rw [h12]; decide), nI_clamp (n := kn) (by omega), if_neg (by rw [h23]; decide), nI_clamp (n := ka) (by omega), ← hc1])
      · refine lv_iconst (v := (-1)) hx hb dX1_snapshot_26 (by decide) ?_
        exact retGi hx hb hr hlocks hK hP hD hS dX1_snapshot_27 (by unfold snapF; rw [if_neg (by rw [h4]; decide), if_neg (by rw [h12]; decide), nI_clamp (n := kn) (by omega), if_pos h23]) (by unfold snapF; rw [if_neg (by rw [h4]; decide), if_neg (by rw [h12]; decide), nI_clamp (n := kn) (by omega), if_pos h23])
theorem in_X1_X1_store : ∀ w ∈ wsX10, w ∈ wsX1_store := fun w h => List.mem_cons_of_mem _ (List.mem_append_left _ (List.mem_append_right _ (h)))
set_option maxHeartbeats 400000 in
set_option maxRecDepth 100000 in
theorem mX1_store (l : Launch) (y : Nat → ClassId) (t : va_W) (a : Nat → Nat) (c : CS) (x : Int32) (v : Int64) (hF : SF c) : MGi l yX1_store wsX1_store 4 87 [.ref (a 0), .int x, .long v] (tyA y) (wC a y c t) ((storeF x v c).1) (wC a y ((storeF x v c).2) t) := by
  refine MGi.of (cc := cX1_store) (maxL := 4) (by decide) rfl (Nat.le_of_ble_eq_true rfl) ?_
  intro D p e s m below meth c0 A ls hx hb hr hml hown hlocks hts hK hP hD hA hN hl hS
  have hl : lv_has ls 4 [(0, .ref (a 0)), (1, .int x), (2, .long v)] := hl
  have hinX1 : ∀ w ∈ u_ws RX1 TX1 10, w ∈ wsX1_store := in_X1_X1_store
  have hB := hF.1
  have hz := hB.1
  have hf : ∀ r, r < c_sz c → c_fi c r + c_co c r ≤ 32 := fun r hr => (hF.2 r hr).2.2.1
  refine lv_aload_n hx hb dX1_store_0 rfl (lv_at hl 0 rfl) ?_
  refine cg_op hx hb hts hinX1 hown hK hP (hts (.fieldLink RX1 35 "FencedWords" "transactionOpen" "Z") (List.mem_of_getElem? (i := 1) rfl)) dX1_store_1 ?_
  refine q_ifb_eq (tgt := 25) hx hb dX1_store_4 (by decide) (fun (h4 : (c_op c) = false) => ?_) (fun (h4 : (c_op c) = true) => ?_)
  · refine lv_iconst (v := (-1)) hx hb dX1_store_25 (by decide) ?_
    exact retGi hx hb hr hlocks hK hP hD hS dX1_store_26 (by unfold storeF; rw [if_pos h4]) (by unfold storeF; rw [if_pos h4])
  · refine lv_iload_n hx hb dX1_store_7 rfl (lv_at hl 1 rfl) ?_
    refine callSi (rest := []) ⟨hx, hb, hml, hown, hts⟩ (mX1_isWord l y _ x) (va_cwS 1 hts gX1_store_X1_isWord rfl rfl rfl (by decide +kernel) ⟨Nat.le_of_ble_eq_true rfl, Nat.le_of_ble_eq_true rfl⟩) hK hP hD hS hA hN rfl hl.1 rfl (Nat.le_of_ble_eq_true rfl) dX1_store_8 ⟨Nat.le_of_ble_eq_true rfl, Nat.le_of_ble_eq_true rfl⟩ (fun H locs hP hD hS => ?_)
    refine q_ifb_eq (tgt := 25) hx hb dX1_store_11 (by decide) (fun (h11 : (isW x) = false) => ?_) (fun (h11 : (isW x) = true) => ?_)
    · refine lv_iconst (v := (-1)) hx hb dX1_store_25 (by decide) ?_
      exact retGi hx hb hr hlocks hK hP hD hS dX1_store_26 (by unfold storeF; rw [if_neg (by rw [h4]; decide), if_pos h11]) (by unfold storeF; rw [if_neg (by rw [h4]; decide), if_pos h11])
    · obtain ⟨k, rfl, q1⟩ := isW_nat h11
      refine lv_aload_n hx hb dX1_store_14 rfl (lv_at hl 0 rfl) ?_
      refine cg_r3 hx hb hts hinX1 hown hK hP (hts (.fieldLink RX1 19 "FencedWords" "log" "LFencedWords$Log;") (List.mem_of_getElem? (i := 2) rfl)) dX1_store_15 ?_
      refine lv_iload_n hx hb dX1_store_18 rfl (lv_at hl 1 rfl) ?_
      refine callVi (rest := []) ⟨hx, hb, hml, hown, hts⟩ (mX0_covers l y t a c k (by omega) (by assumption) (by assumption)) (cwV 1 hts gX1_store_X0_covers rfl rfl rfl (by decide +kernel) ⟨Nat.le_of_ble_eq_true rfl, Nat.le_of_ble_eq_true rfl⟩) (va_recv hK hP (ci := 0) (q0 := 3) rfl rfl) hK hP hD hS hA hN rfl hl.1 rfl (Nat.le_of_ble_eq_true rfl) dX1_store_19 ⟨Nat.le_of_ble_eq_true rfl, Nat.le_of_ble_eq_true rfl⟩ (fun H locs hP hD hS => ?_)
      refine q_ifb_ne (tgt := 27) hx hb dX1_store_22 (by decide) (fun (h22 : (coversF c k) = true) => ?_) (fun (h22 : (coversF c k) = false) => ?_)
      · refine lv_aload_n hx hb dX1_store_27 rfl (lv_at hl 0 rfl) ?_
        refine lv_dup hx hb dX1_store_28 rfl ?_
        refine cg_sl hx hb hts hinX1 hown hK hP (hts (.fieldLink RX1 38 "FencedWords" "storedLines" "I") (List.mem_of_getElem? (i := 3) rfl)) dX1_store_29 ?_
        refine lv_iconst (v := nI 1) hx hb dX1_store_32 (by decide) ?_
        refine lv_iload_n hx hb dX1_store_33 rfl (lv_at hl 1 rfl) ?_
        refine callSi (rest := [.int (nI 1), .int (c_sl c), .ref (a 0)]) ⟨hx, hb, hml, hown, hts⟩ (mX1_lineOf l y _ k (by omega)) (va_cwS 1 hts gX1_store_X1_lineOf rfl rfl rfl (by decide +kernel) ⟨Nat.le_of_ble_eq_true rfl, Nat.le_of_ble_eq_true rfl⟩) hK hP hD hS hA hN rfl hl.1 rfl (Nat.le_of_ble_eq_true rfl) dX1_store_34 ⟨Nat.le_of_ble_eq_true rfl, Nat.le_of_ble_eq_true rfl⟩ (fun H locs hP hD hS => ?_)
        refine lv_ishl hx hb dX1_store_37 ?_
        refine lv_ior hx hb dX1_store_38 ?_
        refine cp_sl (v := (c_sl c) ||| ((nI 1) <<< ((nI (k / 8)) &&& 31))) hx hb hts hinX1 hown hK hP hD hS (hts (.fieldLink RX1 38 "FencedWords" "storedLines" "I") (List.mem_of_getElem? (i := 3) rfl)) dX1_store_39 (fun H locs hP hD hS => ?_)
        refine lv_aload_n hx hb dX1_store_42 rfl (lv_at hl 0 rfl) ?_
        refine lv_iload_n hx hb dX1_store_43 rfl (lv_at hl 1 rfl) ?_
        refine lv_lload_n hx hb dX1_store_44 rfl (lv_at hl 2 rfl) ?_
        refine callVi (rest := []) ⟨hx, hb, hml, hown, hts⟩ (mX1_storeValue l y t a (cs_sl c ((c_sl c) ||| ((nI 1) <<< ((nI (k / 8)) &&& 31)))) k v ⟨hB.1, hB.2.1, hB.2.2⟩ (by omega)) (cwV 2 hts gX1_store_X1_storeValue rfl rfl rfl (by decide +kernel) ⟨Nat.le_of_ble_eq_true rfl, Nat.le_of_ble_eq_true rfl⟩) (va_recv hK hP (ci := 1) (q0 := 0) rfl rfl) hK hP hD hS hA hN rfl hl.1 rfl (Nat.le_of_ble_eq_true rfl) dX1_store_45 ⟨Nat.le_of_ble_eq_true rfl, Nat.le_of_ble_eq_true rfl⟩ (fun H locs hP hD hS => ?_)
        generalize hc1 : (endActF (storeA k v (cs_sl c ((c_sl c) ||| ((nI 1) <<< ((nI (k / 8)) &&& 31)))))).2 = c1 at hP hD
        have hP : va_P D vwCl (wC a y c1 t) H := hP
        have hD : va_D A (wC a y c1 t) := hD
        refine q_ifb_eq (tgt := 55) hx hb dX1_store_48 (by decide) (fun (h48 : ((endActF (storeA k v (cs_sl c ((c_sl c) ||| ((nI 1) <<< ((nI (k / 8)) &&& 31)))))).1) = false) => ?_) (fun (h48 : ((endActF (storeA k v (cs_sl c ((c_sl c) ||| ((nI 1) <<< ((nI (k / 8)) &&& 31)))))).1) = true) => ?_)
        · refine lv_bipush (v := (-2)) hx hb dX1_store_55 (by decide) ?_
          exact retGi hx hb hr hlocks hK hP hD hS dX1_store_57 (by unfold storeF; rw [if_neg (by rw [h4]; decide), if_neg (by rw [h11]; decide), nI_clamp (n := k) (by omega), if_neg (by rw [h22]; decide)]; have q : (endActF (storeA k v (slA k c))).1 = _ := h48; simp only [q]; rfl) (by unfold storeF; rw [if_neg (by rw [h4]; decide), if_neg (by rw [h11]; decide), nI_clamp (n := k) (by omega), if_neg (by rw [h22]; decide), ← hc1]; rfl)
        · refine lv_iconst (v := nI 0) hx hb dX1_store_51 (by decide) ?_
          refine lv_goto (tgt := 57) hx hb dX1_store_52 (by decide) ?_
          exact retGi hx hb hr hlocks hK hP hD hS dX1_store_57 (by unfold storeF; rw [if_neg (by rw [h4]; decide), if_neg (by rw [h11]; decide), nI_clamp (n := k) (by omega), if_neg (by rw [h22]; decide)]; have q : (endActF (storeA k v (slA k c))).1 = _ := h48; simp only [q]; rfl) (by unfold storeF; rw [if_neg (by rw [h4]; decide), if_neg (by rw [h11]; decide), nI_clamp (n := k) (by omega), if_neg (by rw [h22]; decide), ← hc1]; rfl)
      · refine lv_iconst (v := (-1)) hx hb dX1_store_25 (by decide) ?_
        exact retGi hx hb hr hlocks hK hP hD hS dX1_store_26 (by unfold storeF; rw [if_neg (by rw [h4]; decide), if_neg (by rw [h11]; decide), nI_clamp (n := k) (by omega), if_pos h22]) (by unfold storeF; rw [if_neg (by rw [h4]; decide), if_neg (by rw [h11]; decide), nI_clamp (n := k) (by omega), if_pos h22])
theorem in_X1_X1_commit : ∀ w ∈ wsX10, w ∈ wsX1_commit := fun w h => List.mem_cons_of_mem _ (List.mem_append_left _ (List.mem_append_right _ (h)))
set_option maxHeartbeats 400000 in
set_option maxRecDepth 100000 in
theorem mX1_commit (l : Launch) (y : Nat → ClassId) (t : va_W) (a : Nat → Nat) (c : CS) (hF : SF c) (hnk : c_nk c = false) : MGi l yX1_commit wsX1_commit 5 107 [.ref (a 0)] (tyA y) (wC a y c t) ((commitF c).1) (wC a y ((commitF c).2) t) := by
  refine MGi.of (cc := cX1_commit) (maxL := 1) (by decide) rfl (Nat.le_of_ble_eq_true rfl) ?_
  intro D p e s m below meth c0 A ls hx hb hr hml hown hlocks hts hK hP hD hA hN hl hS
  have hl : lv_has ls 1 [(0, .ref (a 0))] := hl
  have hinX1 : ∀ w ∈ u_ws RX1 TX1 10, w ∈ wsX1_commit := in_X1_X1_commit
  have hB := hF.1
  refine lv_aload_n hx hb dX1_commit_0 rfl (lv_at hl 0 rfl) ?_
  refine cg_op hx hb hts hinX1 hown hK hP (hts (.fieldLink RX1 35 "FencedWords" "transactionOpen" "Z") (List.mem_of_getElem? (i := 1) rfl)) dX1_commit_1 ?_
  refine q_ifb_ne (tgt := 9) hx hb dX1_commit_4 (by decide) (fun (h4 : (c_op c) = true) => ?_) (fun (h4 : (c_op c) = false) => ?_)
  · refine lv_aload_n hx hb dX1_commit_9 rfl (lv_at hl 0 rfl) ?_
    refine lv_aload_n hx hb dX1_commit_10 rfl (lv_at hl 0 rfl) ?_
    refine cg_sl hx hb hts hinX1 hown hK hP (hts (.fieldLink RX1 38 "FencedWords" "storedLines" "I") (List.mem_of_getElem? (i := 2) rfl)) dX1_commit_11 ?_
    refine callVi (rest := []) ⟨hx, hb, hml, hown, hts⟩ (mX1_keepLines l y t a c (c_sl c) (by assumption)) (cwV 1 hts gX1_commit_X1_keepLines rfl rfl rfl (by decide +kernel) ⟨Nat.le_of_ble_eq_true rfl, Nat.le_of_ble_eq_true rfl⟩) (va_recv hK hP (ci := 1) (q0 := 0) rfl rfl) hK hP hD hS hA hN rfl hl.1 rfl (Nat.le_of_ble_eq_true rfl) dX1_commit_14 ⟨Nat.le_of_ble_eq_true rfl, Nat.le_of_ble_eq_true rfl⟩ (fun H locs hP hD hS => ?_)
    generalize hc1 : (keepLinesF (c_sl c) c).2 = c1 at hP hD
    have hP : va_P D vwCl (wC a y c1 t) H := hP
    have hD : va_D A (wC a y c1 t) := hD
    refine q_ifb_eq (tgt := 27) hx hb dX1_commit_17 (by decide) (fun (h17 : ((keepLinesF (c_sl c) c).1) = false) => ?_) (fun (h17 : ((keepLinesF (c_sl c) c).1) = true) => ?_)
    · refine lv_bipush (v := (-2)) hx hb dX1_commit_27 (by decide) ?_
      exact retGi hx hb hr hlocks hK hP hD hS dX1_commit_29 (by unfold commitF; rw [if_neg (by rw [h4]; decide), if_pos h17]) (by unfold commitF; rw [if_neg (by rw [h4]; decide), if_pos h17, hc1])
    · have hN1 : SN c1 := hc1 ▸ SN_keepLines ⟨hF, hnk⟩ h17
      have hB := hN1.1.1
      have hnk := hN1.2
      refine lv_aload_n hx hb dX1_commit_20 rfl (lv_at hl 0 rfl) ?_
      refine callVi (rest := []) ⟨hx, hb, hml, hown, hts⟩ (mX1_clearLog l y t a c1 (by assumption) (by assumption)) (cwV 0 hts gX1_commit_X1_clearLog rfl rfl rfl (by decide +kernel) ⟨Nat.le_of_ble_eq_true rfl, Nat.le_of_ble_eq_true rfl⟩) (va_recv hK hP (ci := 1) (q0 := 0) rfl rfl) hK hP hD hS hA hN rfl hl.1 rfl (Nat.le_of_ble_eq_true rfl) dX1_commit_21 ⟨Nat.le_of_ble_eq_true rfl, Nat.le_of_ble_eq_true rfl⟩ (fun H locs hP hD hS => ?_)
      generalize hc2 : (clearF c1).2 = c2 at hP hD
      have hP : va_P D vwCl (wC a y c2 t) H := hP
      have hD : va_D A (wC a y c2 t) := hD
      refine q_ifb_ne (tgt := 30) hx hb dX1_commit_24 (by decide) (fun (h24 : ((clearF c1).1) = true) => ?_) (fun (h24 : ((clearF c1).1) = false) => ?_)
      · refine lv_aload_n hx hb dX1_commit_30 rfl (lv_at hl 0 rfl) ?_
        refine lv_iconst (v := nI 0) hx hb dX1_commit_31 (by decide) ?_
        refine cp_op (v := false) hx hb hts hinX1 hown hK hP hD hS (hts (.fieldLink RX1 35 "FencedWords" "transactionOpen" "Z") (List.mem_of_getElem? (i := 1) rfl)) dX1_commit_32 (fun H locs hP hD hS => ?_)
        refine lv_iconst (v := nI 0) hx hb dX1_commit_35 (by decide) ?_
        exact retGi hx hb hr hlocks hK hP hD hS dX1_commit_36 (by unfold commitF; rw [if_neg (by rw [h4]; decide), if_neg (by rw [h17]; decide), hc1, if_neg (by rw [h24]; decide)]) (by unfold commitF; rw [if_neg (by rw [h4]; decide), if_neg (by rw [h17]; decide), hc1, if_neg (by rw [h24]; decide), hc2])
      · refine lv_bipush (v := (-2)) hx hb dX1_commit_27 (by decide) ?_
        exact retGi hx hb hr hlocks hK hP hD hS dX1_commit_29 (by unfold commitF; rw [if_neg (by rw [h4]; decide), if_neg (by rw [h17]; decide), hc1, if_pos h24]) (by unfold commitF; rw [if_neg (by rw [h4]; decide), if_neg (by rw [h17]; decide), hc1, if_pos h24, hc2])
  · refine lv_iconst (v := (-1)) hx hb dX1_commit_7 (by decide) ?_
    exact retGi hx hb hr hlocks hK hP hD hS dX1_commit_8 (by unfold commitF; rw [if_pos h4]) (by unfold commitF; rw [if_pos h4])
theorem in_X1_X1_abort : ∀ w ∈ wsX10, w ∈ wsX1_abort := fun w h => List.mem_cons_of_mem _ (List.mem_append_left _ (List.mem_append_right _ (h)))
set_option maxHeartbeats 400000 in
set_option maxRecDepth 100000 in
theorem mX1_abort (l : Launch) (y : Nat → ClassId) (t : va_W) (a : Nat → Nat) (c : CS) (hF : SF c) (hnk : c_nk c = false) : MGi l yX1_abort wsX1_abort 6 129 [.ref (a 0)] (tyA y) (wC a y c t) ((abortF c).1) (wC a y ((abortF c).2) t) := by
  refine MGi.of (cc := cX1_abort) (maxL := 1) (by decide) rfl (Nat.le_of_ble_eq_true rfl) ?_
  intro D p e s m below meth c0 A ls hx hb hr hml hown hlocks hts hK hP hD hA hN hl hS
  have hl : lv_has ls 1 [(0, .ref (a 0))] := hl
  have hinX1 : ∀ w ∈ u_ws RX1 TX1 10, w ∈ wsX1_abort := in_X1_X1_abort
  refine lv_aload_n hx hb dX1_abort_0 rfl (lv_at hl 0 rfl) ?_
  refine cg_op hx hb hts hinX1 hown hK hP (hts (.fieldLink RX1 35 "FencedWords" "transactionOpen" "Z") (List.mem_of_getElem? (i := 1) rfl)) dX1_abort_1 ?_
  refine q_ifb_ne (tgt := 9) hx hb dX1_abort_4 (by decide) (fun (h4 : (c_op c) = true) => ?_) (fun (h4 : (c_op c) = false) => ?_)
  · refine lv_aload_n hx hb dX1_abort_9 rfl (lv_at hl 0 rfl) ?_
    refine callVi (rest := []) ⟨hx, hb, hml, hown, hts⟩ (mX1_undo l y t a c hF hnk) (cwV 0 hts gX1_abort_X1_undo rfl rfl rfl (by decide +kernel) ⟨Nat.le_of_ble_eq_true rfl, Nat.le_of_ble_eq_true rfl⟩) (va_recv hK hP (ci := 1) (q0 := 0) rfl rfl) hK hP hD hS hA hN rfl hl.1 rfl (Nat.le_of_ble_eq_true rfl) dX1_abort_10 ⟨Nat.le_of_ble_eq_true rfl, Nat.le_of_ble_eq_true rfl⟩ (fun H locs hP hD hS => ?_)
    generalize hc1 : (undoF c).2 = c1 at hP hD
    have hP : va_P D vwCl (wC a y c1 t) H := hP
    have hD : va_D A (wC a y c1 t) := hD
    refine q_ifb_ne (tgt := 19) hx hb dX1_abort_13 (by decide) (fun (h13 : ((undoF c).1) = true) => ?_) (fun (h13 : ((undoF c).1) = false) => ?_)
    · refine lv_aload_n hx hb dX1_abort_19 rfl (lv_at hl 0 rfl) ?_
      refine lv_iconst (v := nI 0) hx hb dX1_abort_20 (by decide) ?_
      refine cp_op (v := false) hx hb hts hinX1 hown hK hP hD hS (hts (.fieldLink RX1 35 "FencedWords" "transactionOpen" "Z") (List.mem_of_getElem? (i := 1) rfl)) dX1_abort_21 (fun H locs hP hD hS => ?_)
      refine lv_iconst (v := nI 0) hx hb dX1_abort_24 (by decide) ?_
      exact retGi hx hb hr hlocks hK hP hD hS dX1_abort_25 (by unfold abortF; rw [if_neg (by rw [h4]; decide), if_neg (by rw [h13]; decide)]) (by unfold abortF; rw [if_neg (by rw [h4]; decide), if_neg (by rw [h13]; decide), hc1])
    · refine lv_bipush (v := (-2)) hx hb dX1_abort_16 (by decide) ?_
      exact retGi hx hb hr hlocks hK hP hD hS dX1_abort_18 (by unfold abortF; rw [if_neg (by rw [h4]; decide), if_pos h13]) (by unfold abortF; rw [if_neg (by rw [h4]; decide), if_pos h13, hc1])
  · refine lv_iconst (v := (-1)) hx hb dX1_abort_7 (by decide) ?_
    exact retGi hx hb hr hlocks hK hP hD hS dX1_abort_8 (by unfold abortF; rw [if_pos h4]) (by unfold abortF; rw [if_pos h4])
theorem in_X1_X1_recover : ∀ w ∈ wsX10, w ∈ wsX1_recover := fun w h => List.mem_cons_of_mem _ (List.mem_append_left _ (List.mem_append_right _ (h)))
set_option maxHeartbeats 400000 in
set_option maxRecDepth 100000 in
theorem mX1_recover (l : Launch) (y : Nat → ClassId) (t : va_W) (a : Nat → Nat) (c : CS) (hF : SF c) (hnk : c_nk c = false) : MGi l yX1_recover wsX1_recover 6 129 [.ref (a 0)] (tyA y) (wC a y c t) ((recoverF c).1) (wC a y ((recoverF c).2) t) := by
  refine MGi.of (cc := cX1_recover) (maxL := 1) (by decide) rfl (Nat.le_of_ble_eq_true rfl) ?_
  intro D p e s m below meth c0 A ls hx hb hr hml hown hlocks hts hK hP hD hA hN hl hS
  have hl : lv_has ls 1 [(0, .ref (a 0))] := hl
  have hinX1 : ∀ w ∈ u_ws RX1 TX1 10, w ∈ wsX1_recover := in_X1_X1_recover
  refine lv_aload_n hx hb dX1_recover_0 rfl (lv_at hl 0 rfl) ?_
  refine cg_on hx hb hts hinX1 hown hK hP (hts (.fieldLink RX1 23 "FencedWords" "powerOn" "Z") (List.mem_of_getElem? (i := 1) rfl)) dX1_recover_1 ?_
  refine q_ifb_eq (tgt := 9) hx hb dX1_recover_4 (by decide) (fun (h4 : (c_on c) = false) => ?_) (fun (h4 : (c_on c) = true) => ?_)
  · refine lv_aload_n hx hb dX1_recover_9 rfl (lv_at hl 0 rfl) ?_
    refine lv_iconst (v := nI 1) hx hb dX1_recover_10 (by decide) ?_
    refine cp_on (v := true) hx hb hts hinX1 hown hK hP hD hS (hts (.fieldLink RX1 23 "FencedWords" "powerOn" "Z") (List.mem_of_getElem? (i := 1) rfl)) dX1_recover_11 (fun H locs hP hD hS => ?_)
    refine lv_aload_n hx hb dX1_recover_14 rfl (lv_at hl 0 rfl) ?_
    refine cg_r2 hx hb hts hinX1 hown hK hP (hts (.fieldLink RX1 13 "FencedWords" "keptValues" "[J") (List.mem_of_getElem? (i := 2) rfl)) dX1_recover_15 ?_
    refine lv_iconst (v := nI 0) hx hb dX1_recover_18 (by decide) ?_
    refine lv_aload_n hx hb dX1_recover_19 rfl (lv_at hl 0 rfl) ?_
    refine cg_r1 hx hb hts hinX1 hown hK hP (hts (.fieldLink RX1 9 "FencedWords" "seenValues" "[J") (List.mem_of_getElem? (i := 3) rfl)) dX1_recover_20 ?_
    refine lv_iconst (v := nI 0) hx hb dX1_recover_23 (by decide) ?_
    refine lv_bipush (v := nI 32) hx hb dX1_recover_24 (by decide) ?_
    refine cy_K_S hx hb (hml.trans hl.1.symm) hown (hts (.methodLink RX1 76 arraycopyName) (List.mem_of_getElem? (i := 4) rfl)) (hts (.native arraycopyName) (List.mem_of_getElem? (i := 5) rfl)) (hts (.static arraycopyName) (List.mem_of_getElem? (i := 6) rfl)) (hts (.initialized "java/lang/System") (List.mem_of_getElem? (i := 7) rfl)) hK hP hD hS (show 0 + 32 ≤ 32 by omega) (show 0 + 32 ≤ 32 by omega) (Nat.le_of_ble_eq_true rfl) (by decide +kernel) dX1_recover_26 (fun H locs hP hD hS => ?_)
    have hF : SF (cs_S (cs_on c true) (va_cpy (c_K c) (c_S c) 0 0 32)) := hF
    have hnk : c_nk (cs_S (cs_on c true) (va_cpy (c_K c) (c_S c) 0 0 32)) = false := hnk
    refine lv_aload_n hx hb dX1_recover_29 rfl (lv_at hl 0 rfl) ?_
    refine callVi (rest := []) ⟨hx, hb, hml, hown, hts⟩ (mX1_undo l y t a (cs_S (cs_on c true) (va_cpy (c_K c) (c_S c) 0 0 32)) hF hnk) (cwV 0 hts gX1_recover_X1_undo rfl rfl rfl (by decide +kernel) ⟨Nat.le_of_ble_eq_true rfl, Nat.le_of_ble_eq_true rfl⟩) (va_recv hK hP (ci := 1) (q0 := 0) rfl rfl) hK hP hD hS hA hN rfl hl.1 rfl (Nat.le_of_ble_eq_true rfl) dX1_recover_30 ⟨Nat.le_of_ble_eq_true rfl, Nat.le_of_ble_eq_true rfl⟩ (fun H locs hP hD hS => ?_)
    generalize hc1 : (undoF (cs_S (cs_on c true) (va_cpy (c_K c) (c_S c) 0 0 32))).2 = c1 at hP hD
    have hP : va_P D vwCl (wC a y c1 t) H := hP
    have hD : va_D A (wC a y c1 t) := hD
    refine q_ifb_eq (tgt := 40) hx hb dX1_recover_33 (by decide) (fun (h33 : ((undoF (cs_S (cs_on c true) (va_cpy (c_K c) (c_S c) 0 0 32))).1) = false) => ?_) (fun (h33 : ((undoF (cs_S (cs_on c true) (va_cpy (c_K c) (c_S c) 0 0 32))).1) = true) => ?_)
    · refine lv_bipush (v := (-2)) hx hb dX1_recover_40 (by decide) ?_
      exact retGi hx hb hr hlocks hK hP hD hS dX1_recover_42 (by unfold recoverF; rw [if_neg (by rw [h4]; decide)]; have q : (undoF (recA c)).1 = _ := h33; simp only [q]; rfl) (by unfold recoverF; rw [if_neg (by rw [h4]; decide), ← hc1]; rfl)
    · refine lv_iconst (v := nI 0) hx hb dX1_recover_36 (by decide) ?_
      refine lv_goto (tgt := 42) hx hb dX1_recover_37 (by decide) ?_
      exact retGi hx hb hr hlocks hK hP hD hS dX1_recover_42 (by unfold recoverF; rw [if_neg (by rw [h4]; decide)]; have q : (undoF (recA c)).1 = _ := h33; simp only [q]; rfl) (by unfold recoverF; rw [if_neg (by rw [h4]; decide), ← hc1]; rfl)
  · refine lv_iconst (v := (-1)) hx hb dX1_recover_7 (by decide) ?_
    exact retGi hx hb hr hlocks hK hP hD hS dX1_recover_8 (by unfold recoverF; rw [if_pos h4]) (by unfold recoverF; rw [if_pos h4])
theorem in_X1_X1_on : ∀ w ∈ wsX10, w ∈ wsX1_on := fun w h => List.mem_cons_of_mem _ (List.mem_append_right _ (h))
set_option maxHeartbeats 400000 in
set_option maxRecDepth 100000 in
theorem mX1_on (l : Launch) (y : Nat → ClassId) (t : va_W) (a : Nat → Nat) (c : CS)  : MGi l yX1_on wsX1_on 0 0 [.ref (a 0)] (tyA y) (wC a y c t) (bI (c_on c)) (wC a y c t) := by
  refine MGi.of (cc := cX1_on) (maxL := 1) (by decide) rfl (Nat.le_of_ble_eq_true rfl) ?_
  intro D p e s m below meth c0 A ls hx hb hr hml hown hlocks hts hK hP hD hA hN hl hS
  have hl : lv_has ls 1 [(0, .ref (a 0))] := hl
  have hinX1 : ∀ w ∈ u_ws RX1 TX1 10, w ∈ wsX1_on := in_X1_X1_on
  refine lv_aload_n hx hb dX1_on_0 rfl (lv_at hl 0 rfl) ?_
  refine cg_on hx hb hts hinX1 hown hK hP (hts (.fieldLink RX1 23 "FencedWords" "powerOn" "Z") (List.mem_of_getElem? (i := 1) rfl)) dX1_on_1 ?_
  exact retGz hx hb hr hlocks hK hP hD hS dX1_on_4 rfl rfl
theorem in_X1_X1_open : ∀ w ∈ wsX10, w ∈ wsX1_open := fun w h => List.mem_cons_of_mem _ (List.mem_append_right _ (h))
set_option maxHeartbeats 400000 in
set_option maxRecDepth 100000 in
theorem mX1_open (l : Launch) (y : Nat → ClassId) (t : va_W) (a : Nat → Nat) (c : CS)  : MGi l yX1_open wsX1_open 0 0 [.ref (a 0)] (tyA y) (wC a y c t) (bI (c_op c)) (wC a y c t) := by
  refine MGi.of (cc := cX1_open) (maxL := 1) (by decide) rfl (Nat.le_of_ble_eq_true rfl) ?_
  intro D p e s m below meth c0 A ls hx hb hr hml hown hlocks hts hK hP hD hA hN hl hS
  have hl : lv_has ls 1 [(0, .ref (a 0))] := hl
  have hinX1 : ∀ w ∈ u_ws RX1 TX1 10, w ∈ wsX1_open := in_X1_X1_open
  refine lv_aload_n hx hb dX1_open_0 rfl (lv_at hl 0 rfl) ?_
  refine cg_op hx hb hts hinX1 hown hK hP (hts (.fieldLink RX1 35 "FencedWords" "transactionOpen" "Z") (List.mem_of_getElem? (i := 1) rfl)) dX1_open_1 ?_
  exact retGz hx hb hr hlocks hK hP hD hS dX1_open_4 rfl rfl
theorem in_X1_X1_seen : ∀ w ∈ wsX10, w ∈ wsX1_seen := fun w h => List.mem_cons_of_mem _ (List.mem_append_right _ (h))
set_option maxHeartbeats 400000 in
set_option maxRecDepth 100000 in
theorem mX1_seen (l : Launch) (y : Nat → ClassId) (t : va_W) (a : Nat → Nat) (c : CS) (x : Int32)  : MGl l yX1_seen wsX1_seen 1 20 [.ref (a 0), .int x] (tyA y) (wC a y c t) (seenF x c) (wC a y c t) := by
  refine MGl.of (cc := cX1_seen) (maxL := 2) (by decide) rfl (Nat.le_of_ble_eq_true rfl) ?_
  intro D p e s m below meth c0 A ls hx hb hr hml hown hlocks hts hK hP hD hA hN hl hS
  have hl : lv_has ls 2 [(0, .ref (a 0)), (1, .int x)] := hl
  have hinX1 : ∀ w ∈ u_ws RX1 TX1 10, w ∈ wsX1_seen := in_X1_X1_seen
  refine lv_aload_n hx hb dX1_seen_0 rfl (lv_at hl 0 rfl) ?_
  refine cg_on hx hb hts hinX1 hown hK hP (hts (.fieldLink RX1 23 "FencedWords" "powerOn" "Z") (List.mem_of_getElem? (i := 1) rfl)) dX1_seen_1 ?_
  refine q_ifb_eq (tgt := 23) hx hb dX1_seen_4 (by decide) (fun (h4 : (c_on c) = false) => ?_) (fun (h4 : (c_on c) = true) => ?_)
  · refine lv_lconst (v := 0) hx hb dX1_seen_23 (by decide) ?_
    exact retGl hx hb hr hlocks hK hP hD hS dX1_seen_24 (by unfold seenF; rw [if_pos h4]) rfl
  · refine lv_iload_n hx hb dX1_seen_7 rfl (lv_at hl 1 rfl) ?_
    refine callSi (rest := []) ⟨hx, hb, hml, hown, hts⟩ (mX1_isWord l y _ x) (va_cwS 1 hts gX1_seen_X1_isWord rfl rfl rfl (by decide +kernel) ⟨Nat.le_of_ble_eq_true rfl, Nat.le_of_ble_eq_true rfl⟩) hK hP hD hS hA hN rfl hl.1 rfl (Nat.le_of_ble_eq_true rfl) dX1_seen_8 ⟨Nat.le_of_ble_eq_true rfl, Nat.le_of_ble_eq_true rfl⟩ (fun H locs hP hD hS => ?_)
    refine q_ifb_eq (tgt := 23) hx hb dX1_seen_11 (by decide) (fun (h11 : (isW x) = false) => ?_) (fun (h11 : (isW x) = true) => ?_)
    · refine lv_lconst (v := 0) hx hb dX1_seen_23 (by decide) ?_
      exact retGl hx hb hr hlocks hK hP hD hS dX1_seen_24 (by unfold seenF; rw [if_neg (by rw [h4]; decide), if_pos h11]) rfl
    · obtain ⟨k, rfl, q1⟩ := isW_nat h11
      refine lv_aload_n hx hb dX1_seen_14 rfl (lv_at hl 0 rfl) ?_
      refine cg_r1 hx hb hts hinX1 hown hK hP (hts (.fieldLink RX1 9 "FencedWords" "seenValues" "[J") (List.mem_of_getElem? (i := 2) rfl)) dX1_seen_15 ?_
      refine lv_iload_n hx hb dX1_seen_18 rfl (lv_at hl 1 rfl) ?_
      refine cl_S hx hb hK hP (show k < 32 by omega) dX1_seen_19 ?_
      refine lv_goto (tgt := 24) hx hb dX1_seen_20 (by decide) ?_
      exact retGl hx hb hr hlocks hK hP hD hS dX1_seen_24 (by unfold seenF; rw [if_neg (by rw [h4]; decide), if_neg (by rw [h11]; decide), nI_clamp (by omega)]) rfl
theorem in_X1_X1_kept : ∀ w ∈ wsX10, w ∈ wsX1_kept := fun w h => List.mem_cons_of_mem _ (List.mem_append_right _ (h))
set_option maxHeartbeats 400000 in
set_option maxRecDepth 100000 in
theorem mX1_kept (l : Launch) (y : Nat → ClassId) (t : va_W) (a : Nat → Nat) (c : CS) (x : Int32)  : MGl l yX1_kept wsX1_kept 1 20 [.ref (a 0), .int x] (tyA y) (wC a y c t) (keptF x c) (wC a y c t) := by
  refine MGl.of (cc := cX1_kept) (maxL := 2) (by decide) rfl (Nat.le_of_ble_eq_true rfl) ?_
  intro D p e s m below meth c0 A ls hx hb hr hml hown hlocks hts hK hP hD hA hN hl hS
  have hl : lv_has ls 2 [(0, .ref (a 0)), (1, .int x)] := hl
  have hinX1 : ∀ w ∈ u_ws RX1 TX1 10, w ∈ wsX1_kept := in_X1_X1_kept
  refine lv_iload_n hx hb dX1_kept_0 rfl (lv_at hl 1 rfl) ?_
  refine callSi (rest := []) ⟨hx, hb, hml, hown, hts⟩ (mX1_isWord l y _ x) (va_cwS 1 hts gX1_kept_X1_isWord rfl rfl rfl (by decide +kernel) ⟨Nat.le_of_ble_eq_true rfl, Nat.le_of_ble_eq_true rfl⟩) hK hP hD hS hA hN rfl hl.1 rfl (Nat.le_of_ble_eq_true rfl) dX1_kept_1 ⟨Nat.le_of_ble_eq_true rfl, Nat.le_of_ble_eq_true rfl⟩ (fun H locs hP hD hS => ?_)
  refine q_ifb_eq (tgt := 16) hx hb dX1_kept_4 (by decide) (fun (h4 : (isW x) = false) => ?_) (fun (h4 : (isW x) = true) => ?_)
  · refine lv_lconst (v := 0) hx hb dX1_kept_16 (by decide) ?_
    exact retGl hx hb hr hlocks hK hP hD hS dX1_kept_17 (by unfold keptF; rw [if_pos h4]) rfl
  · obtain ⟨k, rfl, q1⟩ := isW_nat h4
    refine lv_aload_n hx hb dX1_kept_7 rfl (lv_at hl 0 rfl) ?_
    refine cg_r2 hx hb hts hinX1 hown hK hP (hts (.fieldLink RX1 13 "FencedWords" "keptValues" "[J") (List.mem_of_getElem? (i := 1) rfl)) dX1_kept_8 ?_
    refine lv_iload_n hx hb dX1_kept_11 rfl (lv_at hl 1 rfl) ?_
    refine cl_K hx hb hK hP (show k < 32 by omega) dX1_kept_12 ?_
    refine lv_goto (tgt := 17) hx hb dX1_kept_13 (by decide) ?_
    exact retGl hx hb hr hlocks hK hP hD hS dX1_kept_17 (by unfold keptF; rw [if_neg (by rw [h4]; decide), nI_clamp (by omega)]) rfl
theorem in_X0_X1_records : ∀ w ∈ wsX00, w ∈ wsX1_records := fun w h => List.mem_cons_of_mem _ (List.mem_append_right _ (h))
theorem in_X1_X1_records : ∀ w ∈ wsX10, w ∈ wsX1_records := fun w h => List.mem_cons_of_mem _ (List.mem_append_left _ (List.mem_append_right _ (h)))
set_option maxHeartbeats 400000 in
set_option maxRecDepth 100000 in
theorem mX1_records (l : Launch) (y : Nat → ClassId) (t : va_W) (a : Nat → Nat) (c : CS)  : MGi l yX1_records wsX1_records 0 0 [.ref (a 0)] (tyA y) (wC a y c t) (nI (c_sz c)) (wC a y c t) := by
  refine MGi.of (cc := cX1_records) (maxL := 1) (by decide) rfl (Nat.le_of_ble_eq_true rfl) ?_
  intro D p e s m below meth c0 A ls hx hb hr hml hown hlocks hts hK hP hD hA hN hl hS
  have hl : lv_has ls 1 [(0, .ref (a 0))] := hl
  have hinX0 : ∀ w ∈ u_ws RX0 TX0 8, w ∈ wsX1_records := in_X0_X1_records
  have hinX1 : ∀ w ∈ u_ws RX1 TX1 10, w ∈ wsX1_records := in_X1_X1_records
  refine lv_aload_n hx hb dX1_records_0 rfl (lv_at hl 0 rfl) ?_
  refine cg_r3 hx hb hts hinX1 hown hK hP (hts (.fieldLink RX1 19 "FencedWords" "log" "LFencedWords$Log;") (List.mem_of_getElem? (i := 1) rfl)) dX1_records_1 ?_
  refine cn_sz (host := "FencedWords") hx hb hts hinX0 hown hK hP (va_Nw.use rfl hN.1) dX1_records_4 ?_
  exact retGi hx hb hr hlocks hK hP hD hS dX1_records_7 rfl rfl
theorem in_X0_X1_taken : ∀ w ∈ wsX00, w ∈ wsX1_taken := fun w h => List.mem_cons_of_mem _ (List.mem_append_right _ (h))
theorem in_X1_X1_taken : ∀ w ∈ wsX10, w ∈ wsX1_taken := fun w h => List.mem_cons_of_mem _ (List.mem_append_left _ (List.mem_append_right _ (h)))
set_option maxHeartbeats 400000 in
set_option maxRecDepth 100000 in
theorem mX1_taken (l : Launch) (y : Nat → ClassId) (t : va_W) (a : Nat → Nat) (c : CS)  : MGi l yX1_taken wsX1_taken 0 0 [.ref (a 0)] (tyA y) (wC a y c t) (nI (c_tk c)) (wC a y c t) := by
  refine MGi.of (cc := cX1_taken) (maxL := 1) (by decide) rfl (Nat.le_of_ble_eq_true rfl) ?_
  intro D p e s m below meth c0 A ls hx hb hr hml hown hlocks hts hK hP hD hA hN hl hS
  have hl : lv_has ls 1 [(0, .ref (a 0))] := hl
  have hinX0 : ∀ w ∈ u_ws RX0 TX0 8, w ∈ wsX1_taken := in_X0_X1_taken
  have hinX1 : ∀ w ∈ u_ws RX1 TX1 10, w ∈ wsX1_taken := in_X1_X1_taken
  refine lv_aload_n hx hb dX1_taken_0 rfl (lv_at hl 0 rfl) ?_
  refine cg_r3 hx hb hts hinX1 hown hK hP (hts (.fieldLink RX1 19 "FencedWords" "log" "LFencedWords$Log;") (List.mem_of_getElem? (i := 1) rfl)) dX1_taken_1 ?_
  refine cn_tk (host := "FencedWords") hx hb hts hinX0 hown hK hP (va_Nw.use rfl hN.2.1) dX1_taken_4 ?_
  exact retGi hx hb hr hlocks hK hP hD hS dX1_taken_7 rfl rfl
theorem in_X1_X1_meter : ∀ w ∈ wsX10, w ∈ wsX1_meter := fun w h => List.mem_cons_of_mem _ (List.mem_append_right _ (h))
set_option maxHeartbeats 400000 in
set_option maxRecDepth 100000 in
theorem mX1_meter (l : Launch) (y : Nat → ClassId) (t : va_W) (a : Nat → Nat) (c : CS)  : MGi l yX1_meter wsX1_meter 0 0 [.ref (a 0)] (tyA y) (wC a y c t) (c_ad c) (wC a y c t) := by
  refine MGi.of (cc := cX1_meter) (maxL := 1) (by decide) rfl (Nat.le_of_ble_eq_true rfl) ?_
  intro D p e s m below meth c0 A ls hx hb hr hml hown hlocks hts hK hP hD hA hN hl hS
  have hl : lv_has ls 1 [(0, .ref (a 0))] := hl
  have hinX1 : ∀ w ∈ u_ws RX1 TX1 10, w ∈ wsX1_meter := in_X1_X1_meter
  refine lv_aload_n hx hb dX1_meter_0 rfl (lv_at hl 0 rfl) ?_
  refine cg_ad hx hb hts hinX1 hown hK hP (hts (.fieldLink RX1 88 "FencedWords" "actsDone" "I") (List.mem_of_getElem? (i := 1) rfl)) dX1_meter_1 ?_
  exact retGi hx hb hr hlocks hK hP hD hS dX1_meter_4 rfl rfl
