theorem in_X1_X1_losePower : ∀ w ∈ wsX10, w ∈ wsX1_losePower := fun w h => List.mem_cons_of_mem _ (List.mem_append_left _ (List.mem_append_right _ (h)))
set_option maxHeartbeats 400000 in
set_option maxRecDepth 100000 in
theorem mX1_losePower (l : Launch) (y : Nat → ClassId) (t : va_W) (a : Nat → Nat) (c : CS) (hz : c_sz c ≤ 20) (hk : c_nk c = true → 1 ≤ c_sz c) : MGv l yX1_losePower wsX1_losePower 1 22 [.ref (a 0)] (tyA y) (wC a y c t) (wC a y (loseF c) t) := by
  refine MGv.of (cc := cX1_losePower) (maxL := 3) (by decide) rfl (Nat.le_of_ble_eq_true rfl) ?_
  intro D p e s m below meth c0 A ls hx hb hr hml hown hlocks hts hK hP hD hA hN hl hS
  have hl : lv_has ls 3 [(0, .ref (a 0))] := hl
  have hinX1 : ∀ w ∈ u_ws RX1 TX1 10, w ∈ wsX1_losePower := in_X1_X1_losePower
  refine lv_iconst (v := nI 0) hx hb dX1_losePower_0 (by decide) ?_
  refine lv_istore_n (lv' := [(1, .int (nI 0)), (0, .ref (a 0))]) hx hb dX1_losePower_1 rfl hl (by decide) rfl (fun ls hl => ?_)
  have loop : ∀ (n2 : Nat) (i : Nat) (H : Heap) (locs : List Loc) (ls : Array Slot), (i ≤ 32) → (33 ≤ i + n2) → va_P D vwCl (wC a y (cs_K c (keepM c i)) t) H → va_D A (wC a y (cs_K c (keepM c i)) t) → va_S A s.heap H locs → lv_has ls 3 [(0, .ref (a 0)), (1, .int (nI i))] → W p l e ({ frames := 1, cells := 0, slots := 0, locals := 22 }) s m [.ref (a 0)].toArray below meth c0 H locs 0 0 (GQv below D (tyA y) A (wC a y (loseF c) t) [.ref (a 0)].toArray s) (F0 m 2 ls []) := by
    intro n2
    induction n2 with
    | zero =>
      intro i H locs ls hi hn hP hD hS hl
      omega
    | succ n2 ih2 =>
      intro i H locs ls hi hn hP hD hS hl
      refine lv_iload_n hx hb dX1_losePower_2 rfl (lv_at hl 1 rfl) ?_
      refine lv_bipush (v := nI 32) hx hb dX1_losePower_3 (by decide) ?_
      refine q_icmp_ge (tgt := 37) hx hb (show i < 2 ^ 31 by omega) (show 32 < 2 ^ 31 by omega) dX1_losePower_5 (by decide) (fun (h5 : 32 ≤ i) => ?_) (fun (h5 : i < 32) => ?_)
      · have e32 : i = 32 := by omega
        subst e32
        refine lv_aload_n hx hb dX1_losePower_37 rfl (lv_at hl 0 rfl) ?_
        refine cg_mk hx hb hts hinX1 hown hK hP (hts (.fieldLink RX1 31 "FencedWords" "maskOfLoss" "J") (List.mem_of_getElem? (i := 1) rfl)) dX1_losePower_38 ?_
        refine lv_bipush (v := nI 32) hx hb dX1_losePower_41 (by decide) ?_
        refine callSi (rest := []) ⟨hx, hb, hml, hown, hts⟩ (mX1_hasBit l y _ (c_mk c) 32 (by omega)) (va_cwS 2 hts gX1_losePower_X1_hasBit rfl rfl rfl (by decide +kernel) ⟨Nat.le_of_ble_eq_true rfl, Nat.le_of_ble_eq_true rfl⟩) hK hP hD hS hA hN rfl hl.1 rfl (Nat.le_of_ble_eq_true rfl) dX1_losePower_43 ⟨Nat.le_of_ble_eq_true rfl, Nat.le_of_ble_eq_true rfl⟩ (fun H locs hP hD hS => ?_)
        refine lv_istore_n (lv' := [(1, .int (bI (hbL (c_mk c) 32))), (0, .ref (a 0))]) hx hb dX1_losePower_46 rfl hl (by decide) rfl (fun ls hl => ?_)
        refine lv_aload_n hx hb dX1_losePower_47 rfl (lv_at hl 1 rfl) ?_
        refine cg_mk hx hb hts hinX1 hown hK hP (hts (.fieldLink RX1 31 "FencedWords" "maskOfLoss" "J") (List.mem_of_getElem? (i := 1) rfl)) dX1_losePower_48 ?_
        refine lv_bipush (v := nI 33) hx hb dX1_losePower_51 (by decide) ?_
        refine callSi (rest := []) ⟨hx, hb, hml, hown, hts⟩ (mX1_hasBit l y _ (c_mk c) 33 (by omega)) (va_cwS 2 hts gX1_losePower_X1_hasBit rfl rfl rfl (by decide +kernel) ⟨Nat.le_of_ble_eq_true rfl, Nat.le_of_ble_eq_true rfl⟩) hK hP hD hS hA hN rfl hl.1 rfl (Nat.le_of_ble_eq_true rfl) dX1_losePower_53 ⟨Nat.le_of_ble_eq_true rfl, Nat.le_of_ble_eq_true rfl⟩ (fun H locs hP hD hS => ?_)
        refine lv_istore_n (lv' := [(2, .int (bI (hbL (c_mk c) 33))), (1, .int (bI (hbL (c_mk c) 32))), (0, .ref (a 0))]) hx hb dX1_losePower_56 rfl hl (by decide) rfl (fun ls hl => ?_)
        refine lv_aload_n hx hb dX1_losePower_57 rfl (lv_at hl 2 rfl) ?_
        refine cg_r3 hx hb hts hinX1 hown hK hP (hts (.fieldLink RX1 19 "FencedWords" "log" "LFencedWords$Log;") (List.mem_of_getElem? (i := 4) rfl)) dX1_losePower_58 ?_
        refine lv_iload_n hx hb dX1_losePower_61 rfl (lv_at hl 1 rfl) ?_
        refine lv_iload_n hx hb dX1_losePower_62 rfl (lv_at hl 0 rfl) ?_
        refine callVv (rest := []) ⟨hx, hb, hml, hown, hts⟩ (mX0_settle l y t a (cs_K c (keepM c 32)) (hbL (c_mk c) 32) (hbL (c_mk c) 33) hz hk) (cwV 2 hts gX1_losePower_X0_settle rfl rfl rfl (by decide +kernel) ⟨Nat.le_of_ble_eq_true rfl, Nat.le_of_ble_eq_true rfl⟩) (va_recv hK hP (ci := 0) (q0 := 3) rfl rfl) hK hP hD hS hA hN rfl hl.1 rfl (Nat.le_of_ble_eq_true rfl) dX1_losePower_63 ⟨Nat.le_of_ble_eq_true rfl, Nat.le_of_ble_eq_true rfl⟩ (fun H locs hP hD hS => ?_)
        generalize hc1 : settleF (cs_K c (keepM c 32)) (hbL (c_mk c) 32) (hbL (c_mk c) 33) = c1 at hP hD
        have hP : va_P D vwCl (wC a y c1 t) H := hP
        have hD : va_D A (wC a y c1 t) := hD
        refine lv_aload_n hx hb dX1_losePower_66 rfl (lv_at hl 2 rfl) ?_
        refine lv_iconst (v := nI 0) hx hb dX1_losePower_67 (by decide) ?_
        refine cp_on (v := false) hx hb hts hinX1 hown hK hP hD hS (hts (.fieldLink RX1 23 "FencedWords" "powerOn" "Z") (List.mem_of_getElem? (i := 5) rfl)) dX1_losePower_68 (fun H locs hP hD hS => ?_)
        refine lv_aload_n hx hb dX1_losePower_71 rfl (lv_at hl 2 rfl) ?_
        refine lv_iconst (v := nI 0) hx hb dX1_losePower_72 (by decide) ?_
        refine cp_op (v := false) hx hb hts hinX1 hown hK hP hD hS (hts (.fieldLink RX1 35 "FencedWords" "transactionOpen" "Z") (List.mem_of_getElem? (i := 6) rfl)) dX1_losePower_73 (fun H locs hP hD hS => ?_)
        refine lv_aload_n hx hb dX1_losePower_76 rfl (lv_at hl 2 rfl) ?_
        refine lv_iconst (v := nI 0) hx hb dX1_losePower_77 (by decide) ?_
        refine cp_fl (v := nI 0) hx hb hts hinX1 hown hK hP hD hS (hts (.fieldLink RX1 138 "FencedWords" "flushedLines" "I") (List.mem_of_getElem? (i := 7) rfl)) dX1_losePower_78 (fun H locs hP hD hS => ?_)
        exact retGv hx hb hr hlocks hK hP hD hS dX1_losePower_81 (by rw [← hc1]; rfl)
      · refine lv_aload_n hx hb dX1_losePower_8 rfl (lv_at hl 0 rfl) ?_
        refine cg_mk hx hb hts hinX1 hown hK hP (hts (.fieldLink RX1 31 "FencedWords" "maskOfLoss" "J") (List.mem_of_getElem? (i := 1) rfl)) dX1_losePower_9 ?_
        refine lv_iload_n hx hb dX1_losePower_12 rfl (lv_at hl 1 rfl) ?_
        refine callSi (rest := []) ⟨hx, hb, hml, hown, hts⟩ (mX1_hasBit l y _ (c_mk c) i (by omega)) (va_cwS 2 hts gX1_losePower_X1_hasBit rfl rfl rfl (by decide +kernel) ⟨Nat.le_of_ble_eq_true rfl, Nat.le_of_ble_eq_true rfl⟩) hK hP hD hS hA hN rfl hl.1 rfl (Nat.le_of_ble_eq_true rfl) dX1_losePower_13 ⟨Nat.le_of_ble_eq_true rfl, Nat.le_of_ble_eq_true rfl⟩ (fun H locs hP hD hS => ?_)
        refine q_ifb_eq (tgt := 31) hx hb dX1_losePower_16 (by decide) (fun (h16 : (hbL (c_mk c) i) = false) => ?_) (fun (h16 : (hbL (c_mk c) i) = true) => ?_)
        · refine lv_iinc (v := nI (i + 1)) (lv' := [(1, .int (nI (i + 1))), (0, .ref (a 0))]) hx hb dX1_losePower_31 hl (k := 1) rfl (nI_add i 1) (by decide) rfl (fun ls hl => ?_)
          refine lv_goto (tgt := 2) hx hb dX1_losePower_34 (by decide) ?_
          rw [keepM_f h16] at hP hD
          exact ih2 (i + 1) _ _ _ (by omega) (by omega) hP hD hS (lv_sub hl [1, 0] rfl)
        · refine lv_aload_n hx hb dX1_losePower_19 rfl (lv_at hl 0 rfl) ?_
          refine cg_r2 hx hb hts hinX1 hown hK hP (hts (.fieldLink RX1 13 "FencedWords" "keptValues" "[J") (List.mem_of_getElem? (i := 2) rfl)) dX1_losePower_20 ?_
          refine lv_iload_n hx hb dX1_losePower_23 rfl (lv_at hl 1 rfl) ?_
          refine lv_aload_n hx hb dX1_losePower_24 rfl (lv_at hl 0 rfl) ?_
          refine cg_r1 hx hb hts hinX1 hown hK hP (hts (.fieldLink RX1 9 "FencedWords" "seenValues" "[J") (List.mem_of_getElem? (i := 3) rfl)) dX1_losePower_25 ?_
          refine lv_iload_n hx hb dX1_losePower_28 rfl (lv_at hl 1 rfl) ?_
          refine cl_S hx hb hK hP (show i < 32 by omega) dX1_losePower_29 ?_
          refine ct_K (v := c_S c i) hx hb hK hP hD hS (show i < 32 by omega) dX1_losePower_30 (fun H locs hP hD hS => ?_)
          refine lv_iinc (v := nI (i + 1)) (lv' := [(1, .int (nI (i + 1))), (0, .ref (a 0))]) hx hb dX1_losePower_31 hl (k := 1) rfl (nI_add i 1) (by decide) rfl (fun ls hl => ?_)
          refine lv_goto (tgt := 2) hx hb dX1_losePower_34 (by decide) ?_
          have hP : va_P D vwCl (wC a y (cs_K (cs_K c (keepM c i)) (vp_updL (keepM c i) i (c_S c i))) t) H := hP
          have hD : va_D A (wC a y (cs_K (cs_K c (keepM c i)) (vp_updL (keepM c i) i (c_S c i))) t) := hD
          rw [css_K, keepM_t h16] at hP hD
          exact ih2 (i + 1) _ _ _ (by omega) (by omega) hP hD hS (lv_sub hl [1, 0] rfl)
  have e0 : c = cs_K c (keepM c 0) := (by rw [keepM_0]; rfl)
  rw [e0] at hP hD
  exact loop 33 0 _ _ _ (by omega) (by omega) hP hD hS (lv_sub hl [1, 0] rfl)
theorem in_X1_X1_endAct : ∀ w ∈ wsX10, w ∈ wsX1_endAct := fun w h => List.mem_cons_of_mem _ (List.mem_append_left _ (List.mem_append_right _ (h)))
set_option maxHeartbeats 400000 in
set_option maxRecDepth 100000 in
theorem mX1_endAct (l : Launch) (y : Nat → ClassId) (t : va_W) (a : Nat → Nat) (c : CS) (hB : CB c) : MGi l yX1_endAct wsX1_endAct 2 44 [.ref (a 0)] (tyA y) (wC a y c t) (bI ((endActF c).1)) (wC a y ((endActF c).2) t) := by
  refine MGi.of (cc := cX1_endAct) (maxL := 1) (by decide) rfl (Nat.le_of_ble_eq_true rfl) ?_
  intro D p e s m below meth c0 A ls hx hb hr hml hown hlocks hts hK hP hD hA hN hl hS
  have hl : lv_has ls 1 [(0, .ref (a 0))] := hl
  have hinX1 : ∀ w ∈ u_ws RX1 TX1 10, w ∈ wsX1_endAct := in_X1_X1_endAct
  obtain ⟨hz, hk, ha⟩ := id hB
  refine lv_aload_n hx hb dX1_endAct_0 rfl (lv_at hl 0 rfl) ?_
  refine lv_dup hx hb dX1_endAct_1 rfl ?_
  refine cg_ad hx hb hts hinX1 hown hK hP (hts (.fieldLink RX1 88 "FencedWords" "actsDone" "I") (List.mem_of_getElem? (i := 1) rfl)) dX1_endAct_2 ?_
  refine lv_iconst (v := nI 1) hx hb dX1_endAct_5 (by decide) ?_
  refine lv_iadd hx hb dX1_endAct_6 ?_
  refine cp_ad (v := (c_ad c) + (nI 1)) hx hb hts hinX1 hown hK hP hD hS (hts (.fieldLink RX1 88 "FencedWords" "actsDone" "I") (List.mem_of_getElem? (i := 1) rfl)) dX1_endAct_7 (fun H locs hP hD hS => ?_)
  refine lv_aload_n hx hb dX1_endAct_10 rfl (lv_at hl 0 rfl) ?_
  refine cg_au hx hb hts hinX1 hown hK hP (hts (.fieldLink RX1 27 "FencedWords" "actsUntilLoss" "I") (List.mem_of_getElem? (i := 2) rfl)) dX1_endAct_11 ?_
  refine q_if_ne (tgt := 19) hx hb (show (c_au c) < 2 ^ 31 by omega) dX1_endAct_14 (by decide) (fun (h14 : ¬ (c_au c) = 0) => ?_) (fun (h14 : (c_au c) = 0) => ?_)
  · refine lv_aload_n hx hb dX1_endAct_19 rfl (lv_at hl 0 rfl) ?_
    refine lv_dup hx hb dX1_endAct_20 rfl ?_
    refine cg_au hx hb hts hinX1 hown hK hP (hts (.fieldLink RX1 27 "FencedWords" "actsUntilLoss" "I") (List.mem_of_getElem? (i := 2) rfl)) dX1_endAct_21 ?_
    refine lv_iconst (v := nI 1) hx hb dX1_endAct_24 (by decide) ?_
    refine q_isub hx hb (show 1 ≤ (c_au c) by omega) dX1_endAct_25 ?_
    refine cp_au (v := (c_au c) - 1) hx hb hts hinX1 hown hK hP hD hS (hts (.fieldLink RX1 27 "FencedWords" "actsUntilLoss" "I") (List.mem_of_getElem? (i := 2) rfl)) dX1_endAct_26 (fun H locs hP hD hS => ?_)
    refine lv_aload_n hx hb dX1_endAct_29 rfl (lv_at hl 0 rfl) ?_
    refine cg_au hx hb hts hinX1 hown hK hP (hts (.fieldLink RX1 27 "FencedWords" "actsUntilLoss" "I") (List.mem_of_getElem? (i := 2) rfl)) dX1_endAct_30 ?_
    refine q_if_le (tgt := 38) hx hb (show ((c_au c) - 1) < 2 ^ 31 by omega) dX1_endAct_33 (by decide) (fun (h33 : ((c_au c) - 1) = 0) => ?_) (fun (h33 : ¬ ((c_au c) - 1) = 0) => ?_)
    · refine lv_aload_n hx hb dX1_endAct_38 rfl (lv_at hl 0 rfl) ?_
      refine callVv (rest := []) ⟨hx, hb, hml, hown, hts⟩ (mX1_losePower l y t a (cs_au (cs_ad c ((c_ad c) + (nI 1))) ((c_au c) - 1)) hz hk) (cwV 0 hts gX1_endAct_X1_losePower rfl rfl rfl (by decide +kernel) ⟨Nat.le_of_ble_eq_true rfl, Nat.le_of_ble_eq_true rfl⟩) (va_recv hK hP (ci := 1) (q0 := 0) rfl rfl) hK hP hD hS hA hN rfl hl.1 rfl (Nat.le_of_ble_eq_true rfl) dX1_endAct_39 ⟨Nat.le_of_ble_eq_true rfl, Nat.le_of_ble_eq_true rfl⟩ (fun H locs hP hD hS => ?_)
      generalize hc1 : loseF (cs_au (cs_ad c ((c_ad c) + (nI 1))) ((c_au c) - 1)) = c1 at hP hD
      have hP : va_P D vwCl (wC a y c1 t) H := hP
      have hD : va_D A (wC a y c1 t) := hD
      refine lv_iconst (v := nI 0) hx hb dX1_endAct_42 (by decide) ?_
      exact retGz hx hb hr hlocks hK hP hD hS dX1_endAct_43 (by unfold endActF; rw [if_neg h14, if_pos h33]; rfl) (congrArg (fun z => wC a y z t) (show c1 = (endActF c).2 by (unfold endActF; rw [if_neg h14, if_pos h33]; exact hc1.symm)))
    · refine lv_iconst (v := nI 1) hx hb dX1_endAct_36 (by decide) ?_
      exact retGz hx hb hr hlocks hK hP hD hS dX1_endAct_37 (by unfold endActF; rw [if_neg h14, if_neg h33]; rfl) (congrArg (fun z => wC a y z t) (show cs_au (cs_ad c ((c_ad c) + (nI 1))) ((c_au c) - 1) = (endActF c).2 by (unfold endActF; rw [if_neg h14, if_neg h33])))
  · refine lv_iconst (v := nI 1) hx hb dX1_endAct_17 (by decide) ?_
    exact retGz hx hb hr hlocks hK hP hD hS dX1_endAct_18 (by unfold endActF; rw [if_pos h14]; rfl) (congrArg (fun z => wC a y z t) (show cs_ad c ((c_ad c) + (nI 1)) = (endActF c).2 by (unfold endActF; rw [if_pos h14])))
theorem in_X1_X1_storeValue : ∀ w ∈ wsX10, w ∈ wsX1_storeValue := fun w h => List.mem_cons_of_mem _ (List.mem_append_left _ (List.mem_append_right _ (h)))
set_option maxHeartbeats 400000 in
set_option maxRecDepth 100000 in
theorem mX1_storeValue (l : Launch) (y : Nat → ClassId) (t : va_W) (a : Nat → Nat) (c : CS) (k : Nat) (v : Int64) (hB : CB c) (hk0 : k < 32) : MGi l yX1_storeValue wsX1_storeValue 3 64 [.ref (a 0), .int (nI k), .long v] (tyA y) (wC a y c t) (bI ((endActF (storeA k v c)).1)) (wC a y ((endActF (storeA k v c)).2) t) := by
  refine MGi.of (cc := cX1_storeValue) (maxL := 4) (by decide) rfl (Nat.le_of_ble_eq_true rfl) ?_
  intro D p e s m below meth c0 A ls hx hb hr hml hown hlocks hts hK hP hD hA hN hl hS
  have hl : lv_has ls 4 [(0, .ref (a 0)), (1, .int (nI k)), (2, .long v)] := hl
  have hinX1 : ∀ w ∈ u_ws RX1 TX1 10, w ∈ wsX1_storeValue := in_X1_X1_storeValue
  refine lv_aload_n hx hb dX1_storeValue_0 rfl (lv_at hl 0 rfl) ?_
  refine cg_r1 hx hb hts hinX1 hown hK hP (hts (.fieldLink RX1 9 "FencedWords" "seenValues" "[J") (List.mem_of_getElem? (i := 1) rfl)) dX1_storeValue_1 ?_
  refine lv_iload_n hx hb dX1_storeValue_4 rfl (lv_at hl 1 rfl) ?_
  refine lv_lload_n hx hb dX1_storeValue_5 rfl (lv_at hl 2 rfl) ?_
  refine ct_S (v := v) hx hb hK hP hD hS (show k < 32 by omega) dX1_storeValue_6 (fun H locs hP hD hS => ?_)
  refine lv_aload_n hx hb dX1_storeValue_7 rfl (lv_at hl 0 rfl) ?_
  refine callVi (rest := []) ⟨hx, hb, hml, hown, hts⟩ (mX1_endAct l y t a (cs_S c (vp_updL (c_S c) k v)) ⟨hB.1, hB.2.1, hB.2.2⟩) (cwV 0 hts gX1_storeValue_X1_endAct rfl rfl rfl (by decide +kernel) ⟨Nat.le_of_ble_eq_true rfl, Nat.le_of_ble_eq_true rfl⟩) (va_recv hK hP (ci := 1) (q0 := 0) rfl rfl) hK hP hD hS hA hN rfl hl.1 rfl (Nat.le_of_ble_eq_true rfl) dX1_storeValue_8 ⟨Nat.le_of_ble_eq_true rfl, Nat.le_of_ble_eq_true rfl⟩ (fun H locs hP hD hS => ?_)
  generalize hc1 : (endActF (cs_S c (vp_updL (c_S c) k v))).2 = c1 at hP hD
  have hP : va_P D vwCl (wC a y c1 t) H := hP
  have hD : va_D A (wC a y c1 t) := hD
  exact retGz hx hb hr hlocks hK hP hD hS dX1_storeValue_11 rfl (by rw [← hc1]; rfl)
theorem in_X1_X1_flush : ∀ w ∈ wsX10, w ∈ wsX1_flush := fun w h => List.mem_cons_of_mem _ (List.mem_append_left _ (List.mem_append_right _ (h)))
set_option maxHeartbeats 400000 in
set_option maxRecDepth 100000 in
theorem mX1_flush (l : Launch) (y : Nat → ClassId) (t : va_W) (a : Nat → Nat) (c : CS) (k : Nat) (hB : CB c) : MGi l yX1_flush wsX1_flush 3 64 [.ref (a 0), .int (nI k)] (tyA y) (wC a y c t) (bI ((endActF (flushA k c)).1)) (wC a y ((endActF (flushA k c)).2) t) := by
  refine MGi.of (cc := cX1_flush) (maxL := 2) (by decide) rfl (Nat.le_of_ble_eq_true rfl) ?_
  intro D p e s m below meth c0 A ls hx hb hr hml hown hlocks hts hK hP hD hA hN hl hS
  have hl : lv_has ls 2 [(0, .ref (a 0)), (1, .int (nI k))] := hl
  have hinX1 : ∀ w ∈ u_ws RX1 TX1 10, w ∈ wsX1_flush := in_X1_X1_flush
  refine lv_aload_n hx hb dX1_flush_0 rfl (lv_at hl 0 rfl) ?_
  refine lv_dup hx hb dX1_flush_1 rfl ?_
  refine cg_fl hx hb hts hinX1 hown hK hP (hts (.fieldLink RX1 138 "FencedWords" "flushedLines" "I") (List.mem_of_getElem? (i := 1) rfl)) dX1_flush_2 ?_
  refine lv_iconst (v := nI 1) hx hb dX1_flush_5 (by decide) ?_
  refine lv_iload_n hx hb dX1_flush_6 rfl (lv_at hl 1 rfl) ?_
  refine lv_ishl hx hb dX1_flush_7 ?_
  refine lv_ior hx hb dX1_flush_8 ?_
  refine cp_fl (v := (c_fl c) ||| ((nI 1) <<< ((nI k) &&& 31))) hx hb hts hinX1 hown hK hP hD hS (hts (.fieldLink RX1 138 "FencedWords" "flushedLines" "I") (List.mem_of_getElem? (i := 1) rfl)) dX1_flush_9 (fun H locs hP hD hS => ?_)
  refine lv_aload_n hx hb dX1_flush_12 rfl (lv_at hl 0 rfl) ?_
  refine callVi (rest := []) ⟨hx, hb, hml, hown, hts⟩ (mX1_endAct l y t a (cs_fl c ((c_fl c) ||| ((nI 1) <<< ((nI k) &&& 31)))) ⟨hB.1, hB.2.1, hB.2.2⟩) (cwV 0 hts gX1_flush_X1_endAct rfl rfl rfl (by decide +kernel) ⟨Nat.le_of_ble_eq_true rfl, Nat.le_of_ble_eq_true rfl⟩) (va_recv hK hP (ci := 1) (q0 := 0) rfl rfl) hK hP hD hS hA hN rfl hl.1 rfl (Nat.le_of_ble_eq_true rfl) dX1_flush_13 ⟨Nat.le_of_ble_eq_true rfl, Nat.le_of_ble_eq_true rfl⟩ (fun H locs hP hD hS => ?_)
  generalize hc1 : (endActF (cs_fl c ((c_fl c) ||| ((nI 1) <<< ((nI k) &&& 31))))).2 = c1 at hP hD
  have hP : va_P D vwCl (wC a y c1 t) H := hP
  have hD : va_D A (wC a y c1 t) := hD
  exact retGz hx hb hr hlocks hK hP hD hS dX1_flush_16 rfl (by rw [← hc1]; rfl)
theorem in_X1_X1_fence : ∀ w ∈ wsX10, w ∈ wsX1_fence := fun w h => List.mem_cons_of_mem _ (List.mem_append_left _ (List.mem_append_right _ (h)))
set_option maxHeartbeats 400000 in
set_option maxRecDepth 100000 in
theorem mX1_fence (l : Launch) (y : Nat → ClassId) (t : va_W) (a : Nat → Nat) (c : CS) (hB : CB c) : MGi l yX1_fence wsX1_fence 3 64 [.ref (a 0)] (tyA y) (wC a y c t) (bI ((endActF (fenceA c)).1)) (wC a y ((endActF (fenceA c)).2) t) := by
  refine MGi.of (cc := cX1_fence) (maxL := 2) (by decide) rfl (Nat.le_of_ble_eq_true rfl) ?_
  intro D p e s m below meth c0 A ls hx hb hr hml hown hlocks hts hK hP hD hA hN hl hS
  have hl : lv_has ls 2 [(0, .ref (a 0))] := hl
  have hinX1 : ∀ w ∈ u_ws RX1 TX1 10, w ∈ wsX1_fence := in_X1_X1_fence
  refine lv_iconst (v := nI 0) hx hb dX1_fence_0 (by decide) ?_
  refine lv_istore_n (lv' := [(1, .int (nI 0)), (0, .ref (a 0))]) hx hb dX1_fence_1 rfl hl (by decide) rfl (fun ls hl => ?_)
  have loop : ∀ (n2 : Nat) (i : Nat) (H : Heap) (locs : List Loc) (ls : Array Slot), (i ≤ 32) → (33 ≤ i + n2) → va_P D vwCl (wC a y (cs_K c (keepL c i)) t) H → va_D A (wC a y (cs_K c (keepL c i)) t) → va_S A s.heap H locs → lv_has ls 2 [(0, .ref (a 0)), (1, .int (nI i))] → W p l e ({ frames := 3, cells := 0, slots := 0, locals := 64 }) s m [.ref (a 0)].toArray below meth c0 H locs 0 0 (GQi below D (tyA y) A (bI ((endActF (fenceA c)).1)) (wC a y ((endActF (fenceA c)).2) t) [.ref (a 0)].toArray s) (F0 m 2 ls []) := by
    intro n2
    induction n2 with
    | zero =>
      intro i H locs ls hi hn hP hD hS hl
      omega
    | succ n2 ih2 =>
      intro i H locs ls hi hn hP hD hS hl
      refine lv_iload_n hx hb dX1_fence_2 rfl (lv_at hl 1 rfl) ?_
      refine lv_bipush (v := nI 32) hx hb dX1_fence_3 (by decide) ?_
      refine q_icmp_ge (tgt := 41) hx hb (show i < 2 ^ 31 by omega) (show 32 < 2 ^ 31 by omega) dX1_fence_5 (by decide) (fun (h5 : 32 ≤ i) => ?_) (fun (h5 : i < 32) => ?_)
      · have e32 : i = 32 := by omega
        subst e32
        refine lv_aload_n hx hb dX1_fence_41 rfl (lv_at hl 0 rfl) ?_
        refine lv_iconst (v := nI 0) hx hb dX1_fence_42 (by decide) ?_
        refine cp_fl (v := nI 0) hx hb hts hinX1 hown hK hP hD hS (hts (.fieldLink RX1 138 "FencedWords" "flushedLines" "I") (List.mem_of_getElem? (i := 1) rfl)) dX1_fence_43 (fun H locs hP hD hS => ?_)
        refine lv_aload_n hx hb dX1_fence_46 rfl (lv_at hl 0 rfl) ?_
        refine callVi (rest := []) ⟨hx, hb, hml, hown, hts⟩ (mX1_endAct l y t a (cs_fl (cs_K c (keepL c 32)) (nI 0)) ⟨hB.1, hB.2.1, hB.2.2⟩) (cwV 0 hts gX1_fence_X1_endAct rfl rfl rfl (by decide +kernel) ⟨Nat.le_of_ble_eq_true rfl, Nat.le_of_ble_eq_true rfl⟩) (va_recv hK hP (ci := 1) (q0 := 0) rfl rfl) hK hP hD hS hA hN rfl hl.1 rfl (Nat.le_of_ble_eq_true rfl) dX1_fence_47 ⟨Nat.le_of_ble_eq_true rfl, Nat.le_of_ble_eq_true rfl⟩ (fun H locs hP hD hS => ?_)
        generalize hc1 : (endActF (cs_fl (cs_K c (keepL c 32)) (nI 0))).2 = c1 at hP hD
        have hP : va_P D vwCl (wC a y c1 t) H := hP
        have hD : va_D A (wC a y c1 t) := hD
        exact retGz hx hb hr hlocks hK hP hD hS dX1_fence_50 rfl (by rw [← hc1]; rfl)
      · refine lv_aload_n hx hb dX1_fence_8 rfl (lv_at hl 0 rfl) ?_
        refine cg_fl hx hb hts hinX1 hown hK hP (hts (.fieldLink RX1 138 "FencedWords" "flushedLines" "I") (List.mem_of_getElem? (i := 1) rfl)) dX1_fence_9 ?_
        refine lv_i2l hx hb dX1_fence_12 rfl ?_
        refine lv_iload_n hx hb dX1_fence_13 rfl (lv_at hl 1 rfl) ?_
        refine callSi (rest := [.long ((c_fl c).toInt64)]) ⟨hx, hb, hml, hown, hts⟩ (mX1_lineOf l y _ i (by omega)) (va_cwS 1 hts gX1_fence_X1_lineOf rfl rfl rfl (by decide +kernel) ⟨Nat.le_of_ble_eq_true rfl, Nat.le_of_ble_eq_true rfl⟩) hK hP hD hS hA hN rfl hl.1 rfl (Nat.le_of_ble_eq_true rfl) dX1_fence_14 ⟨Nat.le_of_ble_eq_true rfl, Nat.le_of_ble_eq_true rfl⟩ (fun H locs hP hD hS => ?_)
        refine callSi (rest := []) ⟨hx, hb, hml, hown, hts⟩ (mX1_hasBit l y _ ((c_fl c).toInt64) (i / 8) (by omega)) (va_cwS 2 hts gX1_fence_X1_hasBit rfl rfl rfl (by decide +kernel) ⟨Nat.le_of_ble_eq_true rfl, Nat.le_of_ble_eq_true rfl⟩) hK hP hD hS hA hN rfl hl.1 rfl (Nat.le_of_ble_eq_true rfl) dX1_fence_17 ⟨Nat.le_of_ble_eq_true rfl, Nat.le_of_ble_eq_true rfl⟩ (fun H locs hP hD hS => ?_)
        refine q_ifb_eq (tgt := 35) hx hb dX1_fence_20 (by decide) (fun (h20 : (hbL ((c_fl c).toInt64) (i / 8)) = false) => ?_) (fun (h20 : (hbL ((c_fl c).toInt64) (i / 8)) = true) => ?_)
        · refine lv_iinc (v := nI (i + 1)) (lv' := [(1, .int (nI (i + 1))), (0, .ref (a 0))]) hx hb dX1_fence_35 hl (k := 1) rfl (nI_add i 1) (by decide) rfl (fun ls hl => ?_)
          refine lv_goto (tgt := 2) hx hb dX1_fence_38 (by decide) ?_
          rw [keepL_f h20] at hP hD
          exact ih2 (i + 1) _ _ _ (by omega) (by omega) hP hD hS (lv_sub hl [1, 0] rfl)
        · refine lv_aload_n hx hb dX1_fence_23 rfl (lv_at hl 0 rfl) ?_
          refine cg_r2 hx hb hts hinX1 hown hK hP (hts (.fieldLink RX1 13 "FencedWords" "keptValues" "[J") (List.mem_of_getElem? (i := 2) rfl)) dX1_fence_24 ?_
          refine lv_iload_n hx hb dX1_fence_27 rfl (lv_at hl 1 rfl) ?_
          refine lv_aload_n hx hb dX1_fence_28 rfl (lv_at hl 0 rfl) ?_
          refine cg_r1 hx hb hts hinX1 hown hK hP (hts (.fieldLink RX1 9 "FencedWords" "seenValues" "[J") (List.mem_of_getElem? (i := 3) rfl)) dX1_fence_29 ?_
          refine lv_iload_n hx hb dX1_fence_32 rfl (lv_at hl 1 rfl) ?_
          refine cl_S hx hb hK hP (show i < 32 by omega) dX1_fence_33 ?_
          refine ct_K (v := c_S c i) hx hb hK hP hD hS (show i < 32 by omega) dX1_fence_34 (fun H locs hP hD hS => ?_)
          refine lv_iinc (v := nI (i + 1)) (lv' := [(1, .int (nI (i + 1))), (0, .ref (a 0))]) hx hb dX1_fence_35 hl (k := 1) rfl (nI_add i 1) (by decide) rfl (fun ls hl => ?_)
          refine lv_goto (tgt := 2) hx hb dX1_fence_38 (by decide) ?_
          have hP : va_P D vwCl (wC a y (cs_K (cs_K c (keepL c i)) (vp_updL (keepL c i) i (c_S c i))) t) H := hP
          have hD : va_D A (wC a y (cs_K (cs_K c (keepL c i)) (vp_updL (keepL c i) i (c_S c i))) t) := hD
          rw [css_K, keepL_t h20] at hP hD
          exact ih2 (i + 1) _ _ _ (by omega) (by omega) hP hD hS (lv_sub hl [1, 0] rfl)
  have e0 : c = cs_K c (keepL c 0) := (by rw [keepL_0]; rfl)
  rw [e0] at hP hD
  exact loop 33 0 _ _ _ (by omega) (by omega) hP hD hS (lv_sub hl [1, 0] rfl)
set_option maxHeartbeats 400000 in
set_option maxRecDepth 100000 in
theorem mX1_doPlainActs (l : Launch) (y : Nat → ClassId) (t : va_W) (a : Nat → Nat) (c : CS) (n : Nat) (hB : CB c) (hn0 : n ≤ 100) : MGi l yX1_doPlainActs wsX1_doPlainActs 3 64 [.ref (a 0), .int (nI n)] (tyA y) (wC a y c t) (bI ((runF (plainL n) c).1)) (wC a y ((runF (plainL n) c).2) t) := by
  refine MGi.of (cc := cX1_doPlainActs) (maxL := 3) (by decide) rfl (Nat.le_of_ble_eq_true rfl) ?_
  intro D p e s m below meth c0 A ls hx hb hr hml hown hlocks hts hK hP hD hA hN hl hS
  have hl : lv_has ls 3 [(0, .ref (a 0)), (1, .int (nI n))] := hl
  refine lv_iconst (v := nI 0) hx hb dX1_doPlainActs_0 (by decide) ?_
  refine lv_istore_n (lv' := [(2, .int (nI 0)), (0, .ref (a 0)), (1, .int (nI n))]) hx hb dX1_doPlainActs_1 rfl hl (by decide) rfl (fun ls hl => ?_)
  have loop : ∀ (n2 : Nat) (i : Nat) (d : CS) (H : Heap) (locs : List Loc) (ls : Array Slot), (i ≤ n) → (n + 1 ≤ i + n2) → (CB d) → (runF (plainL n) c = runF (plainL (n - i)) d) → va_P D vwCl (wC a y d t) H → va_D A (wC a y d t) → va_S A s.heap H locs → lv_has ls 3 [(0, .ref (a 0)), (1, .int (nI n)), (2, .int (nI i))] → W p l e ({ frames := 3, cells := 0, slots := 0, locals := 64 }) s m [.ref (a 0), .int (nI n)].toArray below meth c0 H locs 0 0 (GQi below D (tyA y) A (bI ((runF (plainL n) c).1)) (wC a y ((runF (plainL n) c).2) t) [.ref (a 0), .int (nI n)].toArray s) (F0 m 2 ls []) := by
    intro n2
    induction n2 with
    | zero =>
      intro i d H locs ls hi hn hB hE hP hD hS hl
      omega
    | succ n2 ih2 =>
      intro i d H locs ls hi hn hB hE hP hD hS hl
      refine lv_iload_n hx hb dX1_doPlainActs_2 rfl (lv_at hl 2 rfl) ?_
      refine lv_iload_n hx hb dX1_doPlainActs_3 rfl (lv_at hl 1 rfl) ?_
      refine q_icmp_ge (tgt := 22) hx hb (show i < 2 ^ 31 by omega) (show n < 2 ^ 31 by omega) dX1_doPlainActs_4 (by decide) (fun (h4 : n ≤ i) => ?_) (fun (h4 : i < n) => ?_)
      · refine lv_iconst (v := nI 1) hx hb dX1_doPlainActs_22 (by decide) ?_
        exact retGz hx hb hr hlocks hK hP hD hS dX1_doPlainActs_23 (by rw [hE, show n - i = 0 by omega]; rfl) (by rw [hE, show n - i = 0 by omega]; rfl)
      · refine lv_aload_n hx hb dX1_doPlainActs_7 rfl (lv_at hl 0 rfl) ?_
        refine callVi (rest := []) ⟨hx, hb, hml, hown, hts⟩ (mX1_endAct l y t a d ⟨hB.1, hB.2.1, hB.2.2⟩) (cwV 0 hts gX1_doPlainActs_X1_endAct rfl rfl rfl (by decide +kernel) ⟨Nat.le_of_ble_eq_true rfl, Nat.le_of_ble_eq_true rfl⟩) (va_recv hK hP (ci := 1) (q0 := 0) rfl rfl) hK hP hD hS hA hN rfl hl.1 rfl (Nat.le_of_ble_eq_true rfl) dX1_doPlainActs_8 ⟨Nat.le_of_ble_eq_true rfl, Nat.le_of_ble_eq_true rfl⟩ (fun H locs hP hD hS => ?_)
        generalize hc1 : (endActF d).2 = c1 at hP hD
        have hP : va_P D vwCl (wC a y c1 t) H := hP
        have hD : va_D A (wC a y c1 t) := hD
        refine q_ifb_ne (tgt := 16) hx hb dX1_doPlainActs_11 (by decide) (fun (h11 : ((endActF d).1) = true) => ?_) (fun (h11 : ((endActF d).1) = false) => ?_)
        · refine lv_iinc (v := nI (i + 1)) (lv' := [(2, .int (nI (i + 1))), (0, .ref (a 0)), (1, .int (nI n))]) hx hb dX1_doPlainActs_16 hl (k := 2) rfl (nI_add i 1) (by decide) rfl (fun ls hl => ?_)
          refine lv_goto (tgt := 2) hx hb dX1_doPlainActs_19 (by decide) ?_
          exact ih2 (i + 1) c1 _ _ _ (by omega) (by omega) (hc1 ▸ CB_ok hB h11) (by rw [hE, plainL_s (by omega), runF_t (f := fun c => c) h11, hc1]; rfl) hP hD hS (lv_sub hl [1, 2, 0] rfl)
        · refine lv_iconst (v := nI 0) hx hb dX1_doPlainActs_14 (by decide) ?_
          exact retGz hx hb hr hlocks hK hP hD hS dX1_doPlainActs_15 (by rw [hE, plainL_s (by omega), runF_f (f := fun c => c) h11]; rfl) (by rw [hE, plainL_s (by omega), runF_f (f := fun c => c) h11, ← hc1])
  exact loop (n + 1) 0 c _ _ _ (by omega) (by omega) hB rfl hP hD hS (lv_sub hl [1, 2, 0] rfl)
