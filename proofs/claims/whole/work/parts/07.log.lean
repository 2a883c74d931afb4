theorem in_X0_X0_hasRoomFor : ∀ w ∈ wsX00, w ∈ wsX0_hasRoomFor := fun w h => List.mem_cons_of_mem _ (List.mem_append_right _ (h))
set_option maxHeartbeats 400000 in
set_option maxRecDepth 100000 in
theorem mX0_hasRoomFor (l : Launch) (y : Nat → ClassId) (t : va_W) (a : Nat → Nat) (c : CS) (n : Nat) (hn : n ≤ 8) (ht : c_tk c ≤ 40) : MGi l yX0_hasRoomFor wsX0_hasRoomFor 0 0 [.ref (a 3), .int (nI n)] (tyA y) (wC a y c t) (bI (roomF c n)) (wC a y c t) := by
  refine MGi.of (cc := cX0_hasRoomFor) (maxL := 2) (by decide) rfl (Nat.le_of_ble_eq_true rfl) ?_
  intro D p e s m below meth c0 A ls hx hb hr hml hown hlocks hts hK hP hD hA hN hl hS
  have hl : lv_has ls 2 [(0, .ref (a 3)), (1, .int (nI n))] := hl
  have hinX0 : ∀ w ∈ u_ws RX0 TX0 8, w ∈ wsX0_hasRoomFor := in_X0_X0_hasRoomFor
  refine lv_iload_n hx hb dX0_hasRoomFor_0 rfl (lv_at hl 1 rfl) ?_
  refine lv_iconst (v := nI 1) hx hb dX0_hasRoomFor_1 (by decide) ?_
  refine q_iadd hx hb dX0_hasRoomFor_2 ?_
  refine lv_bipush (v := nI 40) hx hb dX0_hasRoomFor_3 (by decide) ?_
  refine lv_aload_n hx hb dX0_hasRoomFor_5 rfl (lv_at hl 0 rfl) ?_
  refine cg_tk hx hb hts hinX0 hown hK hP (hts (.fieldLink RX0 25 "FencedWords$Log" "cellsTaken" "I") (List.mem_of_getElem? (i := 1) rfl)) dX0_hasRoomFor_6 ?_
  refine q_isub hx hb (show (c_tk c) ≤ 40 by omega) dX0_hasRoomFor_9 ?_
  refine q_icmp_gt (tgt := 17) hx hb (show (n + 1) < 2 ^ 31 by omega) (show (40 - (c_tk c)) < 2 ^ 31 by omega) dX0_hasRoomFor_10 (by decide) (fun (h10 : (40 - (c_tk c)) < (n + 1)) => ?_) (fun (h10 : (n + 1) ≤ (40 - (c_tk c))) => ?_)
  · refine lv_iconst (v := nI 0) hx hb dX0_hasRoomFor_17 (by decide) ?_
    exact retGz hx hb hr hlocks hK hP hD hS dX0_hasRoomFor_18 (by have q : roomF c n = false := (by unfold roomF; simp; omega); rw [q]; rfl) rfl
  · refine lv_iconst (v := nI 1) hx hb dX0_hasRoomFor_13 (by decide) ?_
    refine lv_goto (tgt := 18) hx hb dX0_hasRoomFor_14 (by decide) ?_
    exact retGz hx hb hr hlocks hK hP hD hS dX0_hasRoomFor_18 (by have q : roomF c n = true := (by unfold roomF; simp; omega); rw [q]; rfl) rfl
theorem in_X0_X0_covers : ∀ w ∈ wsX00, w ∈ wsX0_covers := fun w h => List.mem_cons_of_mem _ (List.mem_append_right _ (h))
set_option maxHeartbeats 400000 in
set_option maxRecDepth 100000 in
theorem mX0_covers (l : Launch) (y : Nat → ClassId) (t : va_W) (a : Nat → Nat) (c : CS) (k : Nat) (hk : k < 32) (hz : c_sz c ≤ 20) (hf : ∀ r, r < c_sz c → c_fi c r + c_co c r ≤ 32) : MGi l yX0_covers wsX0_covers 0 0 [.ref (a 3), .int (nI k)] (tyA y) (wC a y c t) (bI (coversF c k)) (wC a y c t) := by
  refine MGi.of (cc := cX0_covers) (maxL := 3) (by decide) rfl (Nat.le_of_ble_eq_true rfl) ?_
  intro D p e s m below meth c0 A ls hx hb hr hml hown hlocks hts hK hP hD hA hN hl hS
  have hl : lv_has ls 3 [(0, .ref (a 3)), (1, .int (nI k))] := hl
  have hinX0 : ∀ w ∈ u_ws RX0 TX0 8, w ∈ wsX0_covers := in_X0_X0_covers
  refine lv_iconst (v := nI 0) hx hb dX0_covers_0 (by decide) ?_
  refine lv_istore_n (lv' := [(2, .int (nI 0)), (0, .ref (a 3)), (1, .int (nI k))]) hx hb dX0_covers_1 rfl hl (by decide) rfl (fun ls hl => ?_)
  have loop : ∀ (n2 : Nat) (i : Nat) (H : Heap) (locs : List Loc) (ls : Array Slot), (i ≤ c_sz c) → (c_sz c + 1 ≤ i + n2) → (anyTo (covP c k) i = false) → va_P D vwCl (wC a y c t) H → va_D A (wC a y c t) → va_S A s.heap H locs → lv_has ls 3 [(0, .ref (a 3)), (1, .int (nI k)), (2, .int (nI i))] → W p l e ({ frames := 0, cells := 0, slots := 0, locals := 0 }) s m [.ref (a 3), .int (nI k)].toArray below meth c0 H locs 0 0 (GQi below D (tyA y) A (bI (coversF c k)) (wC a y c t) [.ref (a 3), .int (nI k)].toArray s) (F0 m 2 ls []) := by
    intro n2
    induction n2 with
    | zero =>
      intro i H locs ls hi hn hc hP hD hS hl
      omega
    | succ n2 ih2 =>
      intro i H locs ls hi hn hc hP hD hS hl
      refine lv_iload_n hx hb dX0_covers_2 rfl (lv_at hl 2 rfl) ?_
      refine lv_aload_n hx hb dX0_covers_3 rfl (lv_at hl 0 rfl) ?_
      refine cg_sz hx hb hts hinX0 hown hK hP (hts (.fieldLink RX0 29 "FencedWords$Log" "size" "I") (List.mem_of_getElem? (i := 1) rfl)) dX0_covers_4 ?_
      refine q_icmp_ge (tgt := 45) hx hb (show i < 2 ^ 31 by omega) (show (c_sz c) < 2 ^ 31 by omega) dX0_covers_7 (by decide) (fun (h7 : (c_sz c) ≤ i) => ?_) (fun (h7 : i < (c_sz c)) => ?_)
      · refine lv_iconst (v := nI 0) hx hb dX0_covers_45 (by decide) ?_
        exact retGz hx hb hr hlocks hK hP hD hS dX0_covers_46 (by have e : i = c_sz c := (by omega); subst e; rw [show coversF c k = false from hc]; rfl) rfl
      · have hfi := hf i h7
        refine lv_iload_n hx hb dX0_covers_10 rfl (lv_at hl 1 rfl) ?_
        refine lv_aload_n hx hb dX0_covers_11 rfl (lv_at hl 0 rfl) ?_
        refine cg_r4 hx hb hts hinX0 hown hK hP (hts (.fieldLink RX0 9 "FencedWords$Log" "firsts" "[I") (List.mem_of_getElem? (i := 2) rfl)) dX0_covers_12 ?_
        refine lv_iload_n hx hb dX0_covers_15 rfl (lv_at hl 2 rfl) ?_
        refine cl_fi hx hb hK hP (show i < 20 by omega) dX0_covers_16 ?_
        refine q_icmp_lt (tgt := 39) hx hb (show k < 2 ^ 31 by omega) (show (c_fi c i) < 2 ^ 31 by omega) dX0_covers_17 (by decide) (fun (h17 : k < (c_fi c i)) => ?_) (fun (h17 : (c_fi c i) ≤ k) => ?_)
        · refine lv_iinc (v := nI (i + 1)) (lv' := [(2, .int (nI (i + 1))), (0, .ref (a 3)), (1, .int (nI k))]) hx hb dX0_covers_39 hl (k := 2) rfl (nI_add i 1) (by decide) rfl (fun ls hl => ?_)
          refine lv_goto (tgt := 2) hx hb dX0_covers_42 (by decide) ?_
          exact ih2 (i + 1) _ _ _ (by omega) (by omega) (by have q : covP c k i = false := (by simp [covP]; omega); simp [anyTo, hc, q]) hP hD hS (lv_sub hl [1, 2, 0] rfl)
        · refine lv_iload_n hx hb dX0_covers_20 rfl (lv_at hl 1 rfl) ?_
          refine lv_aload_n hx hb dX0_covers_21 rfl (lv_at hl 0 rfl) ?_
          refine cg_r4 hx hb hts hinX0 hown hK hP (hts (.fieldLink RX0 9 "FencedWords$Log" "firsts" "[I") (List.mem_of_getElem? (i := 2) rfl)) dX0_covers_22 ?_
          refine lv_iload_n hx hb dX0_covers_25 rfl (lv_at hl 2 rfl) ?_
          refine cl_fi hx hb hK hP (show i < 20 by omega) dX0_covers_26 ?_
          refine lv_aload_n hx hb dX0_covers_27 rfl (lv_at hl 0 rfl) ?_
          refine cg_r5 hx hb hts hinX0 hown hK hP (hts (.fieldLink RX0 15 "FencedWords$Log" "counts" "[I") (List.mem_of_getElem? (i := 3) rfl)) dX0_covers_28 ?_
          refine lv_iload_n hx hb dX0_covers_31 rfl (lv_at hl 2 rfl) ?_
          refine cl_co hx hb hK hP (show i < 20 by omega) dX0_covers_32 ?_
          refine q_iadd hx hb dX0_covers_33 ?_
          refine q_icmp_ge (tgt := 39) hx hb (show k < 2 ^ 31 by omega) (show ((c_fi c i) + (c_co c i)) < 2 ^ 31 by omega) dX0_covers_34 (by decide) (fun (h34 : ((c_fi c i) + (c_co c i)) ≤ k) => ?_) (fun (h34 : k < ((c_fi c i) + (c_co c i))) => ?_)
          · refine lv_iinc (v := nI (i + 1)) (lv' := [(2, .int (nI (i + 1))), (0, .ref (a 3)), (1, .int (nI k))]) hx hb dX0_covers_39 hl (k := 2) rfl (nI_add i 1) (by decide) rfl (fun ls hl => ?_)
            refine lv_goto (tgt := 2) hx hb dX0_covers_42 (by decide) ?_
            exact ih2 (i + 1) _ _ _ (by omega) (by omega) (by have q : covP c k i = false := (by simp [covP]; omega); simp [anyTo, hc, q]) hP hD hS (lv_sub hl [1, 2, 0] rfl)
          · refine lv_iconst (v := nI 1) hx hb dX0_covers_37 (by decide) ?_
            exact retGz hx hb hr hlocks hK hP hD hS dX0_covers_38 (by rw [show coversF c k = true from anyTo_mono h7 (by simp [covP, h17, h34])]; rfl) rfl
  exact loop (c_sz c + 1) 0 _ _ _ (by omega) (by omega) rfl hP hD hS (lv_sub hl [1, 2, 0] rfl)
theorem in_X0_X0_coveredLines : ∀ w ∈ wsX00, w ∈ wsX0_coveredLines := fun w h => List.mem_cons_of_mem _ (List.mem_append_right _ (h))
set_option maxHeartbeats 400000 in
set_option maxRecDepth 100000 in
theorem mX0_coveredLines (l : Launch) (y : Nat → ClassId) (t : va_W) (a : Nat → Nat) (c : CS) (hz : c_sz c ≤ 20) (hf : ∀ r, r < c_sz c → 1 ≤ c_co c r ∧ c_fi c r + c_co c r ≤ 32) : MGi l yX0_coveredLines wsX0_coveredLines 1 20 [.ref (a 3)] (tyA y) (wC a y c t) (covL c (c_sz c)) (wC a y c t) := by
  refine MGi.of (cc := cX0_coveredLines) (maxL := 3) (by decide) rfl (Nat.le_of_ble_eq_true rfl) ?_
  intro D p e s m below meth c0 A ls hx hb hr hml hown hlocks hts hK hP hD hA hN hl hS
  have hl : lv_has ls 3 [(0, .ref (a 3))] := hl
  have hinX0 : ∀ w ∈ u_ws RX0 TX0 8, w ∈ wsX0_coveredLines := in_X0_X0_coveredLines
  refine lv_iconst (v := nI 0) hx hb dX0_coveredLines_0 (by decide) ?_
  refine lv_istore_n (lv' := [(1, .int (nI 0)), (0, .ref (a 3))]) hx hb dX0_coveredLines_1 rfl hl (by decide) rfl (fun ls hl => ?_)
  refine lv_iconst (v := nI 0) hx hb dX0_coveredLines_2 (by decide) ?_
  refine lv_istore_n (lv' := [(2, .int (nI 0)), (1, .int (nI 0)), (0, .ref (a 3))]) hx hb dX0_coveredLines_3 rfl hl (by decide) rfl (fun ls hl => ?_)
  have loop : ∀ (n4 : Nat) (i : Nat) (H : Heap) (locs : List Loc) (ls : Array Slot), (i ≤ c_sz c) → (c_sz c + 1 ≤ i + n4) → va_P D vwCl (wC a y c t) H → va_D A (wC a y c t) → va_S A s.heap H locs → lv_has ls 3 [(0, .ref (a 3)), (1, .int (covL c i)), (2, .int (nI i))] → W p l e ({ frames := 1, cells := 0, slots := 0, locals := 20 }) s m [.ref (a 3)].toArray below meth c0 H locs 0 0 (GQi below D (tyA y) A (covL c (c_sz c)) (wC a y c t) [.ref (a 3)].toArray s) (F0 m 4 ls []) := by
    intro n4
    induction n4 with
    | zero =>
      intro i H locs ls hi hn hP hD hS hl
      omega
    | succ n4 ih4 =>
      intro i H locs ls hi hn hP hD hS hl
      refine lv_iload_n hx hb dX0_coveredLines_4 rfl (lv_at hl 2 rfl) ?_
      refine lv_aload_n hx hb dX0_coveredLines_5 rfl (lv_at hl 0 rfl) ?_
      refine cg_sz hx hb hts hinX0 hown hK hP (hts (.fieldLink RX0 29 "FencedWords$Log" "size" "I") (List.mem_of_getElem? (i := 1) rfl)) dX0_coveredLines_6 ?_
      refine q_icmp_ge (tgt := 55) hx hb (show i < 2 ^ 31 by omega) (show (c_sz c) < 2 ^ 31 by omega) dX0_coveredLines_9 (by decide) (fun (h9 : (c_sz c) ≤ i) => ?_) (fun (h9 : i < (c_sz c)) => ?_)
      · refine lv_iload_n hx hb dX0_coveredLines_55 rfl (lv_at hl 1 rfl) ?_
        exact retGi hx hb hr hlocks hK hP hD hS dX0_coveredLines_56 (by rw [show i = c_sz c by omega]) rfl
      · have hfi := hf i h9
        refine lv_iload_n hx hb dX0_coveredLines_12 rfl (lv_at hl 1 rfl) ?_
        refine lv_iconst (v := nI 1) hx hb dX0_coveredLines_13 (by decide) ?_
        refine lv_aload_n hx hb dX0_coveredLines_14 rfl (lv_at hl 0 rfl) ?_
        refine cg_r4 hx hb hts hinX0 hown hK hP (hts (.fieldLink RX0 9 "FencedWords$Log" "firsts" "[I") (List.mem_of_getElem? (i := 2) rfl)) dX0_coveredLines_15 ?_
        refine lv_iload_n hx hb dX0_coveredLines_18 rfl (lv_at hl 2 rfl) ?_
        refine cl_fi hx hb hK hP (show i < 20 by omega) dX0_coveredLines_19 ?_
        refine callNi (rest := [.int (nI 1), .int (covL c i)]) ⟨hx, hb, hml, hown, hts⟩ (mX1_lineOf l y _ (c_fi c i) (by omega)) ⟨va_cnB (host := "FencedWords") 1 hts gX0_coveredLines_X1_lineOf_n32 rfl rfl rfl hN.2.2.2.2 (hts (.initialized RX1) (List.mem_of_getElem? (i := 5) rfl)) (by decide +kernel) ⟨Nat.le_of_ble_eq_true rfl, Nat.le_of_ble_eq_true rfl⟩, hts (.static yX1_lineOf) (List.mem_of_getElem? (i := 4) rfl), trivial⟩ hK hP hD hS hA hN rfl hl.1 rfl (Nat.le_of_ble_eq_true rfl) dX0_coveredLines_20 ⟨Nat.le_of_ble_eq_true rfl, Nat.le_of_ble_eq_true rfl⟩ (fun H locs hP hD hS => ?_)
        refine lv_ishl hx hb dX0_coveredLines_23 ?_
        refine lv_ior hx hb dX0_coveredLines_24 ?_
        refine lv_istore_n (lv' := [(1, .int ((covL c i) ||| ((nI 1) <<< ((nI ((c_fi c i) / 8)) &&& 31)))), (0, .ref (a 3)), (2, .int (nI i))]) hx hb dX0_coveredLines_25 rfl hl (by decide) rfl (fun ls hl => ?_)
        refine lv_iload_n hx hb dX0_coveredLines_26 rfl (lv_at hl 0 rfl) ?_
        refine lv_iconst (v := nI 1) hx hb dX0_coveredLines_27 (by decide) ?_
        refine lv_aload_n hx hb dX0_coveredLines_28 rfl (lv_at hl 1 rfl) ?_
        refine cg_r4 hx hb hts hinX0 hown hK hP (hts (.fieldLink RX0 9 "FencedWords$Log" "firsts" "[I") (List.mem_of_getElem? (i := 2) rfl)) dX0_coveredLines_29 ?_
        refine lv_iload_n hx hb dX0_coveredLines_32 rfl (lv_at hl 2 rfl) ?_
        refine cl_fi hx hb hK hP (show i < 20 by omega) dX0_coveredLines_33 ?_
        refine lv_aload_n hx hb dX0_coveredLines_34 rfl (lv_at hl 1 rfl) ?_
        refine cg_r5 hx hb hts hinX0 hown hK hP (hts (.fieldLink RX0 15 "FencedWords$Log" "counts" "[I") (List.mem_of_getElem? (i := 3) rfl)) dX0_coveredLines_35 ?_
        refine lv_iload_n hx hb dX0_coveredLines_38 rfl (lv_at hl 2 rfl) ?_
        refine cl_co hx hb hK hP (show i < 20 by omega) dX0_coveredLines_39 ?_
        refine q_iadd hx hb dX0_coveredLines_40 ?_
        refine lv_iconst (v := nI 1) hx hb dX0_coveredLines_41 (by decide) ?_
        refine q_isub hx hb (show 1 ≤ ((c_fi c i) + (c_co c i)) by omega) dX0_coveredLines_42 ?_
        refine callNi (rest := [.int (nI 1), .int ((covL c i) ||| ((nI 1) <<< ((nI ((c_fi c i) / 8)) &&& 31)))]) ⟨hx, hb, hml, hown, hts⟩ (mX1_lineOf l y _ (((c_fi c i) + (c_co c i)) - 1) (by omega)) ⟨va_cnB (host := "FencedWords") 1 hts gX0_coveredLines_X1_lineOf_n32 rfl rfl rfl hN.2.2.2.2 (hts (.initialized RX1) (List.mem_of_getElem? (i := 5) rfl)) (by decide +kernel) ⟨Nat.le_of_ble_eq_true rfl, Nat.le_of_ble_eq_true rfl⟩, hts (.static yX1_lineOf) (List.mem_of_getElem? (i := 4) rfl), trivial⟩ hK hP hD hS hA hN rfl hl.1 rfl (Nat.le_of_ble_eq_true rfl) dX0_coveredLines_43 ⟨Nat.le_of_ble_eq_true rfl, Nat.le_of_ble_eq_true rfl⟩ (fun H locs hP hD hS => ?_)
        refine lv_ishl hx hb dX0_coveredLines_46 ?_
        refine lv_ior hx hb dX0_coveredLines_47 ?_
        refine lv_istore_n (lv' := [(1, .int (((covL c i) ||| ((nI 1) <<< ((nI ((c_fi c i) / 8)) &&& 31))) ||| ((nI 1) <<< ((nI ((((c_fi c i) + (c_co c i)) - 1) / 8)) &&& 31)))), (0, .ref (a 3)), (2, .int (nI i))]) hx hb dX0_coveredLines_48 rfl hl (by decide) rfl (fun ls hl => ?_)
        refine lv_iinc (v := nI (i + 1)) (lv' := [(2, .int (nI (i + 1))), (1, .int (((covL c i) ||| ((nI 1) <<< ((nI ((c_fi c i) / 8)) &&& 31))) ||| ((nI 1) <<< ((nI ((((c_fi c i) + (c_co c i)) - 1) / 8)) &&& 31)))), (0, .ref (a 3))]) hx hb dX0_coveredLines_49 hl (k := 2) rfl (nI_add i 1) (by decide) rfl (fun ls hl => ?_)
        refine lv_goto (tgt := 4) hx hb dX0_coveredLines_52 (by decide) ?_
        exact ih4 (i + 1) _ _ _ (by omega) (by omega) hP hD hS (lv_sub hl [2, 1, 0] rfl)
  exact loop (c_sz c + 1) 0 _ _ _ (by omega) (by omega) hP hD hS (lv_sub hl [2, 1, 0] rfl)
theorem in_X0_X0_oldValue : ∀ w ∈ wsX00, w ∈ wsX0_oldValue := fun w h => List.mem_cons_of_mem _ (List.mem_append_right _ (h))
set_option maxHeartbeats 400000 in
set_option maxRecDepth 100000 in
theorem mX0_oldValue (l : Launch) (y : Nat → ClassId) (t : va_W) (a : Nat → Nat) (c : CS) (r i : Nat) (hr0 : r < 20) (hi : c_sc c r + 1 + i < 40) : MGl l yX0_oldValue wsX0_oldValue 0 0 [.ref (a 3), .int (nI r), .int (nI i)] (tyA y) (wC a y c t) (c_ce c (c_sc c r + 1 + i)) (wC a y c t) := by
  refine MGl.of (cc := cX0_oldValue) (maxL := 3) (by decide) rfl (Nat.le_of_ble_eq_true rfl) ?_
  intro D p e s m below meth c0 A ls hx hb hr hml hown hlocks hts hK hP hD hA hN hl hS
  have hl : lv_has ls 3 [(0, .ref (a 3)), (1, .int (nI r)), (2, .int (nI i))] := hl
  have hinX0 : ∀ w ∈ u_ws RX0 TX0 8, w ∈ wsX0_oldValue := in_X0_X0_oldValue
  refine lv_aload_n hx hb dX0_oldValue_0 rfl (lv_at hl 0 rfl) ?_
  refine cg_r7 hx hb hts hinX0 hown hK hP (hts (.fieldLink RX0 21 "FencedWords$Log" "cells" "[J") (List.mem_of_getElem? (i := 1) rfl)) dX0_oldValue_1 ?_
  refine lv_aload_n hx hb dX0_oldValue_4 rfl (lv_at hl 0 rfl) ?_
  refine cg_r6 hx hb hts hinX0 hown hK hP (hts (.fieldLink RX0 18 "FencedWords$Log" "startCells" "[I") (List.mem_of_getElem? (i := 2) rfl)) dX0_oldValue_5 ?_
  refine lv_iload_n hx hb dX0_oldValue_8 rfl (lv_at hl 1 rfl) ?_
  refine cl_sc hx hb hK hP (show r < 20 by omega) dX0_oldValue_9 ?_
  refine lv_iconst (v := nI 1) hx hb dX0_oldValue_10 (by decide) ?_
  refine q_iadd hx hb dX0_oldValue_11 ?_
  refine lv_iload_n hx hb dX0_oldValue_12 rfl (lv_at hl 2 rfl) ?_
  refine q_iadd hx hb dX0_oldValue_13 ?_
  refine cl_ce hx hb hK hP (show (((c_sc c r) + 1) + i) < 40 by omega) dX0_oldValue_14 ?_
  exact retGl hx hb hr hlocks hK hP hD hS dX0_oldValue_15 rfl rfl
theorem in_X0_X0_write : ∀ w ∈ wsX00, w ∈ wsX0_write := fun w h => List.mem_cons_of_mem _ (List.mem_append_right _ (h))
set_option maxHeartbeats 400000 in
set_option maxRecDepth 100000 in
theorem mX0_write (l : Launch) (y : Nat → ClassId) (t : va_W) (a : Nat → Nat) (c : CS) (k n : Nat) (h1 : k + n ≤ 32) (h2 : c_sz c < 20) (h3 : c_tk c + 1 + n ≤ 40) : MGv l yX0_write wsX0_write 1 40 [.ref (a 3), .int (nI k), .int (nI n), .ref (a 1)] (tyA y) (wC a y c t) (wC a y (writeA k n c) t) := by
  refine MGv.of (cc := cX0_write) (maxL := 4) (by decide) rfl (Nat.le_of_ble_eq_true rfl) ?_
  intro D p e s m below meth c0 A ls hx hb hr hml hown hlocks hts hK hP hD hA hN hl hS
  have hl : lv_has ls 4 [(0, .ref (a 3)), (1, .int (nI k)), (2, .int (nI n)), (3, .ref (a 1))] := hl
  have hinX0 : ∀ w ∈ u_ws RX0 TX0 8, w ∈ wsX0_write := in_X0_X0_write
  refine lv_aload_n hx hb dX0_write_0 rfl (lv_at hl 0 rfl) ?_
  refine cg_r4 hx hb hts hinX0 hown hK hP (hts (.fieldLink RX0 9 "FencedWords$Log" "firsts" "[I") (List.mem_of_getElem? (i := 1) rfl)) dX0_write_1 ?_
  refine lv_aload_n hx hb dX0_write_4 rfl (lv_at hl 0 rfl) ?_
  refine cg_sz hx hb hts hinX0 hown hK hP (hts (.fieldLink RX0 29 "FencedWords$Log" "size" "I") (List.mem_of_getElem? (i := 2) rfl)) dX0_write_5 ?_
  refine lv_iload_n hx hb dX0_write_8 rfl (lv_at hl 1 rfl) ?_
  refine ct_fi (v := k) hx hb hK hP hD hS (show (c_sz c) < 20 by omega) dX0_write_9 (fun H locs hP hD hS => ?_)
  refine lv_aload_n hx hb dX0_write_10 rfl (lv_at hl 0 rfl) ?_
  refine cg_r5 hx hb hts hinX0 hown hK hP (hts (.fieldLink RX0 15 "FencedWords$Log" "counts" "[I") (List.mem_of_getElem? (i := 3) rfl)) dX0_write_11 ?_
  refine lv_aload_n hx hb dX0_write_14 rfl (lv_at hl 0 rfl) ?_
  refine cg_sz hx hb hts hinX0 hown hK hP (hts (.fieldLink RX0 29 "FencedWords$Log" "size" "I") (List.mem_of_getElem? (i := 2) rfl)) dX0_write_15 ?_
  refine lv_iload_n hx hb dX0_write_18 rfl (lv_at hl 2 rfl) ?_
  refine ct_co (v := n) hx hb hK hP hD hS (show (c_sz c) < 20 by omega) dX0_write_19 (fun H locs hP hD hS => ?_)
  refine lv_aload_n hx hb dX0_write_20 rfl (lv_at hl 0 rfl) ?_
  refine cg_r6 hx hb hts hinX0 hown hK hP (hts (.fieldLink RX0 18 "FencedWords$Log" "startCells" "[I") (List.mem_of_getElem? (i := 4) rfl)) dX0_write_21 ?_
  refine lv_aload_n hx hb dX0_write_24 rfl (lv_at hl 0 rfl) ?_
  refine cg_sz hx hb hts hinX0 hown hK hP (hts (.fieldLink RX0 29 "FencedWords$Log" "size" "I") (List.mem_of_getElem? (i := 2) rfl)) dX0_write_25 ?_
  refine lv_aload_n hx hb dX0_write_28 rfl (lv_at hl 0 rfl) ?_
  refine cg_tk hx hb hts hinX0 hown hK hP (hts (.fieldLink RX0 25 "FencedWords$Log" "cellsTaken" "I") (List.mem_of_getElem? (i := 5) rfl)) dX0_write_29 ?_
  refine ct_sc (v := c_tk c) hx hb hK hP hD hS (show (c_sz c) < 20 by omega) dX0_write_32 (fun H locs hP hD hS => ?_)
  refine lv_aload_n hx hb dX0_write_33 rfl (lv_at hl 3 rfl) ?_
  refine lv_iload_n hx hb dX0_write_34 rfl (lv_at hl 1 rfl) ?_
  refine lv_aload_n hx hb dX0_write_35 rfl (lv_at hl 0 rfl) ?_
  refine cg_r7 hx hb hts hinX0 hown hK hP (hts (.fieldLink RX0 21 "FencedWords$Log" "cells" "[J") (List.mem_of_getElem? (i := 6) rfl)) dX0_write_36 ?_
  refine lv_aload_n hx hb dX0_write_39 rfl (lv_at hl 0 rfl) ?_
  refine cg_tk hx hb hts hinX0 hown hK hP (hts (.fieldLink RX0 25 "FencedWords$Log" "cellsTaken" "I") (List.mem_of_getElem? (i := 5) rfl)) dX0_write_40 ?_
  refine lv_iconst (v := nI 1) hx hb dX0_write_43 (by decide) ?_
  refine q_iadd hx hb dX0_write_44 ?_
  refine lv_iload_n hx hb dX0_write_45 rfl (lv_at hl 2 rfl) ?_
  refine cy_S_ce hx hb (hml.trans hl.1.symm) hown (hts (.methodLink RX0 36 arraycopyName) (List.mem_of_getElem? (i := 7) rfl)) (hts (.native arraycopyName) (List.mem_of_getElem? (i := 8) rfl)) (hts (.static arraycopyName) (List.mem_of_getElem? (i := 9) rfl)) (hts (.initialized "java/lang/System") (List.mem_of_getElem? (i := 10) rfl)) hK hP hD hS (show k + n ≤ 32 by omega) (show ((c_tk c) + 1) + n ≤ 40 by omega) (Nat.le_of_ble_eq_true rfl) (by decide +kernel) dX0_write_46 (fun H locs hP hD hS => ?_)
  refine lv_aload_n hx hb dX0_write_49 rfl (lv_at hl 0 rfl) ?_
  refine lv_dup hx hb dX0_write_50 rfl ?_
  refine cg_tk hx hb hts hinX0 hown hK hP (hts (.fieldLink RX0 25 "FencedWords$Log" "cellsTaken" "I") (List.mem_of_getElem? (i := 5) rfl)) dX0_write_51 ?_
  refine lv_iload_n hx hb dX0_write_54 rfl (lv_at hl 2 rfl) ?_
  refine lv_iconst (v := nI 1) hx hb dX0_write_55 (by decide) ?_
  refine q_iadd hx hb dX0_write_56 ?_
  refine q_iadd hx hb dX0_write_57 ?_
  refine cp_tk (v := (c_tk c) + (n + 1)) hx hb hts hinX0 hown hK hP hD hS (hts (.fieldLink RX0 25 "FencedWords$Log" "cellsTaken" "I") (List.mem_of_getElem? (i := 5) rfl)) dX0_write_58 (fun H locs hP hD hS => ?_)
  refine lv_aload_n hx hb dX0_write_61 rfl (lv_at hl 0 rfl) ?_
  refine lv_dup hx hb dX0_write_62 rfl ?_
  refine cg_sz hx hb hts hinX0 hown hK hP (hts (.fieldLink RX0 29 "FencedWords$Log" "size" "I") (List.mem_of_getElem? (i := 2) rfl)) dX0_write_63 ?_
  refine lv_iconst (v := nI 1) hx hb dX0_write_66 (by decide) ?_
  refine q_iadd hx hb dX0_write_67 ?_
  refine cp_sz (v := (c_sz c) + 1) hx hb hts hinX0 hown hK hP hD hS (hts (.fieldLink RX0 29 "FencedWords$Log" "size" "I") (List.mem_of_getElem? (i := 2) rfl)) dX0_write_68 (fun H locs hP hD hS => ?_)
  refine lv_aload_n hx hb dX0_write_71 rfl (lv_at hl 0 rfl) ?_
  refine lv_iconst (v := nI 1) hx hb dX0_write_72 (by decide) ?_
  refine cp_nk (v := true) hx hb hts hinX0 hown hK hP hD hS (hts (.fieldLink RX0 42 "FencedWords$Log" "newestNotKept" "Z") (List.mem_of_getElem? (i := 11) rfl)) dX0_write_73 (fun H locs hP hD hS => ?_)
  exact retGv hx hb hr hlocks hK hP hD hS dX0_write_76 rfl
theorem in_X0_X0_keepNewest : ∀ w ∈ wsX00, w ∈ wsX0_keepNewest := fun w h => List.mem_cons_of_mem _ (List.mem_append_right _ (h))
set_option maxHeartbeats 400000 in
set_option maxRecDepth 100000 in
theorem mX0_keepNewest (l : Launch) (y : Nat → ClassId) (t : va_W) (a : Nat → Nat) (c : CS)  : MGv l yX0_keepNewest wsX0_keepNewest 0 0 [.ref (a 3)] (tyA y) (wC a y c t) (wC a y (keepN c) t) := by
  refine MGv.of (cc := cX0_keepNewest) (maxL := 1) (by decide) rfl (Nat.le_of_ble_eq_true rfl) ?_
  intro D p e s m below meth c0 A ls hx hb hr hml hown hlocks hts hK hP hD hA hN hl hS
  have hl : lv_has ls 1 [(0, .ref (a 3))] := hl
  have hinX0 : ∀ w ∈ u_ws RX0 TX0 8, w ∈ wsX0_keepNewest := in_X0_X0_keepNewest
  refine lv_aload_n hx hb dX0_keepNewest_0 rfl (lv_at hl 0 rfl) ?_
  refine lv_iconst (v := nI 0) hx hb dX0_keepNewest_1 (by decide) ?_
  refine cp_nk (v := false) hx hb hts hinX0 hown hK hP hD hS (hts (.fieldLink RX0 42 "FencedWords$Log" "newestNotKept" "Z") (List.mem_of_getElem? (i := 1) rfl)) dX0_keepNewest_2 (fun H locs hP hD hS => ?_)
  exact retGv hx hb hr hlocks hK hP hD hS dX0_keepNewest_5 rfl
theorem in_X0_X0_crossOut : ∀ w ∈ wsX00, w ∈ wsX0_crossOut := fun w h => List.mem_cons_of_mem _ (List.mem_append_right _ (h))
set_option maxHeartbeats 400000 in
set_option maxRecDepth 100000 in
theorem mX0_crossOut (l : Launch) (y : Nat → ClassId) (t : va_W) (a : Nat → Nat) (c : CS)  : MGv l yX0_crossOut wsX0_crossOut 0 0 [.ref (a 3)] (tyA y) (wC a y c t) (wC a y (crossA c) t) := by
  refine MGv.of (cc := cX0_crossOut) (maxL := 1) (by decide) rfl (Nat.le_of_ble_eq_true rfl) ?_
  intro D p e s m below meth c0 A ls hx hb hr hml hown hlocks hts hK hP hD hA hN hl hS
  have hl : lv_has ls 1 [(0, .ref (a 3))] := hl
  have hinX0 : ∀ w ∈ u_ws RX0 TX0 8, w ∈ wsX0_crossOut := in_X0_X0_crossOut
  refine lv_aload_n hx hb dX0_crossOut_0 rfl (lv_at hl 0 rfl) ?_
  refine lv_iconst (v := nI 1) hx hb dX0_crossOut_1 (by decide) ?_
  refine cp_xo (v := true) hx hb hts hinX0 hown hK hP hD hS (hts (.fieldLink RX0 46 "FencedWords$Log" "crossedOut" "Z") (List.mem_of_getElem? (i := 1) rfl)) dX0_crossOut_2 (fun H locs hP hD hS => ?_)
  exact retGv hx hb hr hlocks hK hP hD hS dX0_crossOut_5 rfl
theorem in_X0_X0_dropAll : ∀ w ∈ wsX00, w ∈ wsX0_dropAll := fun w h => List.mem_cons_of_mem _ (List.mem_append_right _ (h))
set_option maxHeartbeats 400000 in
set_option maxRecDepth 100000 in
theorem mX0_dropAll (l : Launch) (y : Nat → ClassId) (t : va_W) (a : Nat → Nat) (c : CS)  : MGv l yX0_dropAll wsX0_dropAll 0 0 [.ref (a 3)] (tyA y) (wC a y c t) (wC a y (dropA c) t) := by
  refine MGv.of (cc := cX0_dropAll) (maxL := 1) (by decide) rfl (Nat.le_of_ble_eq_true rfl) ?_
  intro D p e s m below meth c0 A ls hx hb hr hml hown hlocks hts hK hP hD hA hN hl hS
  have hl : lv_has ls 1 [(0, .ref (a 3))] := hl
  have hinX0 : ∀ w ∈ u_ws RX0 TX0 8, w ∈ wsX0_dropAll := in_X0_X0_dropAll
  refine lv_aload_n hx hb dX0_dropAll_0 rfl (lv_at hl 0 rfl) ?_
  refine lv_iconst (v := nI 0) hx hb dX0_dropAll_1 (by decide) ?_
  refine cp_sz (v := 0) hx hb hts hinX0 hown hK hP hD hS (hts (.fieldLink RX0 29 "FencedWords$Log" "size" "I") (List.mem_of_getElem? (i := 1) rfl)) dX0_dropAll_2 (fun H locs hP hD hS => ?_)
  refine lv_aload_n hx hb dX0_dropAll_5 rfl (lv_at hl 0 rfl) ?_
  refine lv_iconst (v := nI 0) hx hb dX0_dropAll_6 (by decide) ?_
  refine cp_tk (v := 0) hx hb hts hinX0 hown hK hP hD hS (hts (.fieldLink RX0 25 "FencedWords$Log" "cellsTaken" "I") (List.mem_of_getElem? (i := 2) rfl)) dX0_dropAll_7 (fun H locs hP hD hS => ?_)
  refine lv_aload_n hx hb dX0_dropAll_10 rfl (lv_at hl 0 rfl) ?_
  refine lv_iconst (v := nI 0) hx hb dX0_dropAll_11 (by decide) ?_
  refine cp_xo (v := false) hx hb hts hinX0 hown hK hP hD hS (hts (.fieldLink RX0 46 "FencedWords$Log" "crossedOut" "Z") (List.mem_of_getElem? (i := 3) rfl)) dX0_dropAll_12 (fun H locs hP hD hS => ?_)
  exact retGv hx hb hr hlocks hK hP hD hS dX0_dropAll_15 rfl
theorem in_X0_X0_settle : ∀ w ∈ wsX00, w ∈ wsX0_settle := fun w h => List.mem_cons_of_mem _ (List.mem_append_right _ (h))
set_option maxHeartbeats 400000 in
set_option maxRecDepth 100000 in
theorem mX0_settle (l : Launch) (y : Nat → ClassId) (t : va_W) (a : Nat → Nat) (c : CS) (w x : Bool) (hz : c_sz c ≤ 20) (hk : c_nk c = true → 1 ≤ c_sz c) : MGv l yX0_settle wsX0_settle 0 0 [.ref (a 3), .int (bI w), .int (bI x)] (tyA y) (wC a y c t) (wC a y (settleF c w x) t) := by
  refine MGv.of (cc := cX0_settle) (maxL := 3) (by decide) rfl (Nat.le_of_ble_eq_true rfl) ?_
  intro D p e s m below meth c0 A ls hx hb hr hml hown hlocks hts hK hP hD hA hN hl hS
  have hl : lv_has ls 3 [(0, .ref (a 3)), (1, .int (bI w)), (2, .int (bI x))] := hl
  have hinX0 : ∀ w ∈ u_ws RX0 TX0 8, w ∈ wsX0_settle := in_X0_X0_settle
  refine lv_aload_n hx hb dX0_settle_0 rfl (lv_at hl 0 rfl) ?_
  refine cg_nk hx hb hts hinX0 hown hK hP (hts (.fieldLink RX0 42 "FencedWords$Log" "newestNotKept" "Z") (List.mem_of_getElem? (i := 1) rfl)) dX0_settle_1 ?_
  refine q_ifb_eq (tgt := 34) hx hb dX0_settle_4 (by decide) (fun (h4 : (c_nk c) = false) => ?_) (fun (h4 : (c_nk c) = true) => ?_)
  · refine lv_aload_n hx hb dX0_settle_34 rfl (lv_at hl 0 rfl) ?_
    refine cg_xo hx hb hts hinX0 hown hK hP (hts (.fieldLink RX0 46 "FencedWords$Log" "crossedOut" "Z") (List.mem_of_getElem? (i := 5) rfl)) dX0_settle_35 ?_
    refine q_ifb_eq (tgt := 55) hx hb dX0_settle_38 (by decide) (fun (h38 : (c_xo c) = false) => ?_) (fun (h38 : (c_xo c) = true) => ?_)
    · refine lv_aload_n hx hb dX0_settle_55 rfl (lv_at hl 0 rfl) ?_
      refine lv_iconst (v := nI 0) hx hb dX0_settle_56 (by decide) ?_
      refine cp_nk (v := false) hx hb hts hinX0 hown hK hP hD hS (hts (.fieldLink RX0 42 "FencedWords$Log" "newestNotKept" "Z") (List.mem_of_getElem? (i := 1) rfl)) dX0_settle_57 (fun H locs hP hD hS => ?_)
      refine lv_aload_n hx hb dX0_settle_60 rfl (lv_at hl 0 rfl) ?_
      refine lv_iconst (v := nI 0) hx hb dX0_settle_61 (by decide) ?_
      refine cp_xo (v := false) hx hb hts hinX0 hown hK hP hD hS (hts (.fieldLink RX0 46 "FencedWords$Log" "crossedOut" "Z") (List.mem_of_getElem? (i := 5) rfl)) dX0_settle_62 (fun H locs hP hD hS => ?_)
      exact retGv hx hb hr hlocks hK hP hD hS dX0_settle_65 (congrArg (fun z => wC a y z t) (show cs_xo (cs_nk c false) false = settleF c w x by (simp [settleF, h4, h38] <;> rfl)))
    · refine lv_iload_n hx hb dX0_settle_41 rfl (lv_at hl 2 rfl) ?_
      refine q_ifb_eq (tgt := 55) hx hb dX0_settle_42 (by decide) (fun (h42 : x = false) => ?_) (fun (h42 : x = true) => ?_)
      · refine lv_aload_n hx hb dX0_settle_55 rfl (lv_at hl 0 rfl) ?_
        refine lv_iconst (v := nI 0) hx hb dX0_settle_56 (by decide) ?_
        refine cp_nk (v := false) hx hb hts hinX0 hown hK hP hD hS (hts (.fieldLink RX0 42 "FencedWords$Log" "newestNotKept" "Z") (List.mem_of_getElem? (i := 1) rfl)) dX0_settle_57 (fun H locs hP hD hS => ?_)
        refine lv_aload_n hx hb dX0_settle_60 rfl (lv_at hl 0 rfl) ?_
        refine lv_iconst (v := nI 0) hx hb dX0_settle_61 (by decide) ?_
        refine cp_xo (v := false) hx hb hts hinX0 hown hK hP hD hS (hts (.fieldLink RX0 46 "FencedWords$Log" "crossedOut" "Z") (List.mem_of_getElem? (i := 5) rfl)) dX0_settle_62 (fun H locs hP hD hS => ?_)
        exact retGv hx hb hr hlocks hK hP hD hS dX0_settle_65 (congrArg (fun z => wC a y z t) (show cs_xo (cs_nk c false) false = settleF c w x by (simp [settleF, h4, h38, h42] <;> rfl)))
      · refine lv_aload_n hx hb dX0_settle_45 rfl (lv_at hl 0 rfl) ?_
        refine lv_iconst (v := nI 0) hx hb dX0_settle_46 (by decide) ?_
        refine cp_sz (v := 0) hx hb hts hinX0 hown hK hP hD hS (hts (.fieldLink RX0 29 "FencedWords$Log" "size" "I") (List.mem_of_getElem? (i := 2) rfl)) dX0_settle_47 (fun H locs hP hD hS => ?_)
        refine lv_aload_n hx hb dX0_settle_50 rfl (lv_at hl 0 rfl) ?_
        refine lv_iconst (v := nI 0) hx hb dX0_settle_51 (by decide) ?_
        refine cp_tk (v := 0) hx hb hts hinX0 hown hK hP hD hS (hts (.fieldLink RX0 25 "FencedWords$Log" "cellsTaken" "I") (List.mem_of_getElem? (i := 4) rfl)) dX0_settle_52 (fun H locs hP hD hS => ?_)
        refine lv_aload_n hx hb dX0_settle_55 rfl (lv_at hl 0 rfl) ?_
        refine lv_iconst (v := nI 0) hx hb dX0_settle_56 (by decide) ?_
        refine cp_nk (v := false) hx hb hts hinX0 hown hK hP hD hS (hts (.fieldLink RX0 42 "FencedWords$Log" "newestNotKept" "Z") (List.mem_of_getElem? (i := 1) rfl)) dX0_settle_57 (fun H locs hP hD hS => ?_)
        refine lv_aload_n hx hb dX0_settle_60 rfl (lv_at hl 0 rfl) ?_
        refine lv_iconst (v := nI 0) hx hb dX0_settle_61 (by decide) ?_
        refine cp_xo (v := false) hx hb hts hinX0 hown hK hP hD hS (hts (.fieldLink RX0 46 "FencedWords$Log" "crossedOut" "Z") (List.mem_of_getElem? (i := 5) rfl)) dX0_settle_62 (fun H locs hP hD hS => ?_)
        exact retGv hx hb hr hlocks hK hP hD hS dX0_settle_65 (congrArg (fun z => wC a y z t) (show cs_xo (cs_nk (cs_tk (cs_sz c 0) 0) false) false = settleF c w x by (simp [settleF, h4, h38, h42] <;> rfl)))
  · have hz1 := hk h4
    refine lv_iload_n hx hb dX0_settle_7 rfl (lv_at hl 1 rfl) ?_
    refine q_ifb_ne (tgt := 34) hx hb dX0_settle_8 (by decide) (fun (h8 : w = true) => ?_) (fun (h8 : w = false) => ?_)
    · refine lv_aload_n hx hb dX0_settle_34 rfl (lv_at hl 0 rfl) ?_
      refine cg_xo hx hb hts hinX0 hown hK hP (hts (.fieldLink RX0 46 "FencedWords$Log" "crossedOut" "Z") (List.mem_of_getElem? (i := 5) rfl)) dX0_settle_35 ?_
      refine q_ifb_eq (tgt := 55) hx hb dX0_settle_38 (by decide) (fun (h38 : (c_xo c) = false) => ?_) (fun (h38 : (c_xo c) = true) => ?_)
      · refine lv_aload_n hx hb dX0_settle_55 rfl (lv_at hl 0 rfl) ?_
        refine lv_iconst (v := nI 0) hx hb dX0_settle_56 (by decide) ?_
        refine cp_nk (v := false) hx hb hts hinX0 hown hK hP hD hS (hts (.fieldLink RX0 42 "FencedWords$Log" "newestNotKept" "Z") (List.mem_of_getElem? (i := 1) rfl)) dX0_settle_57 (fun H locs hP hD hS => ?_)
        refine lv_aload_n hx hb dX0_settle_60 rfl (lv_at hl 0 rfl) ?_
        refine lv_iconst (v := nI 0) hx hb dX0_settle_61 (by decide) ?_
        refine cp_xo (v := false) hx hb hts hinX0 hown hK hP hD hS (hts (.fieldLink RX0 46 "FencedWords$Log" "crossedOut" "Z") (List.mem_of_getElem? (i := 5) rfl)) dX0_settle_62 (fun H locs hP hD hS => ?_)
        exact retGv hx hb hr hlocks hK hP hD hS dX0_settle_65 (congrArg (fun z => wC a y z t) (show cs_xo (cs_nk c false) false = settleF c w x by (simp [settleF, h4, h8, h38] <;> rfl)))
      · refine lv_iload_n hx hb dX0_settle_41 rfl (lv_at hl 2 rfl) ?_
        refine q_ifb_eq (tgt := 55) hx hb dX0_settle_42 (by decide) (fun (h42 : x = false) => ?_) (fun (h42 : x = true) => ?_)
        · refine lv_aload_n hx hb dX0_settle_55 rfl (lv_at hl 0 rfl) ?_
          refine lv_iconst (v := nI 0) hx hb dX0_settle_56 (by decide) ?_
          refine cp_nk (v := false) hx hb hts hinX0 hown hK hP hD hS (hts (.fieldLink RX0 42 "FencedWords$Log" "newestNotKept" "Z") (List.mem_of_getElem? (i := 1) rfl)) dX0_settle_57 (fun H locs hP hD hS => ?_)
          refine lv_aload_n hx hb dX0_settle_60 rfl (lv_at hl 0 rfl) ?_
          refine lv_iconst (v := nI 0) hx hb dX0_settle_61 (by decide) ?_
          refine cp_xo (v := false) hx hb hts hinX0 hown hK hP hD hS (hts (.fieldLink RX0 46 "FencedWords$Log" "crossedOut" "Z") (List.mem_of_getElem? (i := 5) rfl)) dX0_settle_62 (fun H locs hP hD hS => ?_)
          exact retGv hx hb hr hlocks hK hP hD hS dX0_settle_65 (congrArg (fun z => wC a y z t) (show cs_xo (cs_nk c false) false = settleF c w x by (simp [settleF, h4, h8, h38, h42] <;> rfl)))
        · refine lv_aload_n hx hb dX0_settle_45 rfl (lv_at hl 0 rfl) ?_
          refine lv_iconst (v := nI 0) hx hb dX0_settle_46 (by decide) ?_
          refine cp_sz (v := 0) hx hb hts hinX0 hown hK hP hD hS (hts (.fieldLink RX0 29 "FencedWords$Log" "size" "I") (List.mem_of_getElem? (i := 2) rfl)) dX0_settle_47 (fun H locs hP hD hS => ?_)
          refine lv_aload_n hx hb dX0_settle_50 rfl (lv_at hl 0 rfl) ?_
          refine lv_iconst (v := nI 0) hx hb dX0_settle_51 (by decide) ?_
          refine cp_tk (v := 0) hx hb hts hinX0 hown hK hP hD hS (hts (.fieldLink RX0 25 "FencedWords$Log" "cellsTaken" "I") (List.mem_of_getElem? (i := 4) rfl)) dX0_settle_52 (fun H locs hP hD hS => ?_)
          refine lv_aload_n hx hb dX0_settle_55 rfl (lv_at hl 0 rfl) ?_
          refine lv_iconst (v := nI 0) hx hb dX0_settle_56 (by decide) ?_
          refine cp_nk (v := false) hx hb hts hinX0 hown hK hP hD hS (hts (.fieldLink RX0 42 "FencedWords$Log" "newestNotKept" "Z") (List.mem_of_getElem? (i := 1) rfl)) dX0_settle_57 (fun H locs hP hD hS => ?_)
          refine lv_aload_n hx hb dX0_settle_60 rfl (lv_at hl 0 rfl) ?_
          refine lv_iconst (v := nI 0) hx hb dX0_settle_61 (by decide) ?_
          refine cp_xo (v := false) hx hb hts hinX0 hown hK hP hD hS (hts (.fieldLink RX0 46 "FencedWords$Log" "crossedOut" "Z") (List.mem_of_getElem? (i := 5) rfl)) dX0_settle_62 (fun H locs hP hD hS => ?_)
          exact retGv hx hb hr hlocks hK hP hD hS dX0_settle_65 (congrArg (fun z => wC a y z t) (show cs_xo (cs_nk (cs_tk (cs_sz c 0) 0) false) false = settleF c w x by (simp [settleF, h4, h8, h38, h42] <;> rfl)))
    · refine lv_aload_n hx hb dX0_settle_11 rfl (lv_at hl 0 rfl) ?_
      refine lv_dup hx hb dX0_settle_12 rfl ?_
      refine cg_sz hx hb hts hinX0 hown hK hP (hts (.fieldLink RX0 29 "FencedWords$Log" "size" "I") (List.mem_of_getElem? (i := 2) rfl)) dX0_settle_13 ?_
      refine lv_iconst (v := nI 1) hx hb dX0_settle_16 (by decide) ?_
      refine q_isub hx hb (show 1 ≤ (c_sz c) by omega) dX0_settle_17 ?_
      refine cp_sz (v := (c_sz c) - 1) hx hb hts hinX0 hown hK hP hD hS (hts (.fieldLink RX0 29 "FencedWords$Log" "size" "I") (List.mem_of_getElem? (i := 2) rfl)) dX0_settle_18 (fun H locs hP hD hS => ?_)
      refine lv_aload_n hx hb dX0_settle_21 rfl (lv_at hl 0 rfl) ?_
      refine lv_aload_n hx hb dX0_settle_22 rfl (lv_at hl 0 rfl) ?_
      refine cg_r6 hx hb hts hinX0 hown hK hP (hts (.fieldLink RX0 18 "FencedWords$Log" "startCells" "[I") (List.mem_of_getElem? (i := 3) rfl)) dX0_settle_23 ?_
      refine lv_aload_n hx hb dX0_settle_26 rfl (lv_at hl 0 rfl) ?_
      refine cg_sz hx hb hts hinX0 hown hK hP (hts (.fieldLink RX0 29 "FencedWords$Log" "size" "I") (List.mem_of_getElem? (i := 2) rfl)) dX0_settle_27 ?_
      refine cl_sc hx hb hK hP (show ((c_sz c) - 1) < 20 by omega) dX0_settle_30 ?_
      refine cp_tk (v := c_sc c ((c_sz c) - 1)) hx hb hts hinX0 hown hK hP hD hS (hts (.fieldLink RX0 25 "FencedWords$Log" "cellsTaken" "I") (List.mem_of_getElem? (i := 4) rfl)) dX0_settle_31 (fun H locs hP hD hS => ?_)
      refine lv_aload_n hx hb dX0_settle_34 rfl (lv_at hl 0 rfl) ?_
      refine cg_xo hx hb hts hinX0 hown hK hP (hts (.fieldLink RX0 46 "FencedWords$Log" "crossedOut" "Z") (List.mem_of_getElem? (i := 5) rfl)) dX0_settle_35 ?_
      refine q_ifb_eq (tgt := 55) hx hb dX0_settle_38 (by decide) (fun (h38 : (c_xo c) = false) => ?_) (fun (h38 : (c_xo c) = true) => ?_)
      · refine lv_aload_n hx hb dX0_settle_55 rfl (lv_at hl 0 rfl) ?_
        refine lv_iconst (v := nI 0) hx hb dX0_settle_56 (by decide) ?_
        refine cp_nk (v := false) hx hb hts hinX0 hown hK hP hD hS (hts (.fieldLink RX0 42 "FencedWords$Log" "newestNotKept" "Z") (List.mem_of_getElem? (i := 1) rfl)) dX0_settle_57 (fun H locs hP hD hS => ?_)
        refine lv_aload_n hx hb dX0_settle_60 rfl (lv_at hl 0 rfl) ?_
        refine lv_iconst (v := nI 0) hx hb dX0_settle_61 (by decide) ?_
        refine cp_xo (v := false) hx hb hts hinX0 hown hK hP hD hS (hts (.fieldLink RX0 46 "FencedWords$Log" "crossedOut" "Z") (List.mem_of_getElem? (i := 5) rfl)) dX0_settle_62 (fun H locs hP hD hS => ?_)
        exact retGv hx hb hr hlocks hK hP hD hS dX0_settle_65 (congrArg (fun z => wC a y z t) (show cs_xo (cs_nk (cs_tk (cs_sz c ((c_sz c) - 1)) (c_sc c ((c_sz c) - 1))) false) false = settleF c w x by (simp [settleF, h4, h8, h38] <;> rfl)))
      · refine lv_iload_n hx hb dX0_settle_41 rfl (lv_at hl 2 rfl) ?_
        refine q_ifb_eq (tgt := 55) hx hb dX0_settle_42 (by decide) (fun (h42 : x = false) => ?_) (fun (h42 : x = true) => ?_)
        · refine lv_aload_n hx hb dX0_settle_55 rfl (lv_at hl 0 rfl) ?_
          refine lv_iconst (v := nI 0) hx hb dX0_settle_56 (by decide) ?_
          refine cp_nk (v := false) hx hb hts hinX0 hown hK hP hD hS (hts (.fieldLink RX0 42 "FencedWords$Log" "newestNotKept" "Z") (List.mem_of_getElem? (i := 1) rfl)) dX0_settle_57 (fun H locs hP hD hS => ?_)
          refine lv_aload_n hx hb dX0_settle_60 rfl (lv_at hl 0 rfl) ?_
          refine lv_iconst (v := nI 0) hx hb dX0_settle_61 (by decide) ?_
          refine cp_xo (v := false) hx hb hts hinX0 hown hK hP hD hS (hts (.fieldLink RX0 46 "FencedWords$Log" "crossedOut" "Z") (List.mem_of_getElem? (i := 5) rfl)) dX0_settle_62 (fun H locs hP hD hS => ?_)
          exact retGv hx hb hr hlocks hK hP hD hS dX0_settle_65 (congrArg (fun z => wC a y z t) (show cs_xo (cs_nk (cs_tk (cs_sz c ((c_sz c) - 1)) (c_sc c ((c_sz c) - 1))) false) false = settleF c w x by (simp [settleF, h4, h8, h38, h42] <;> rfl)))
        · refine lv_aload_n hx hb dX0_settle_45 rfl (lv_at hl 0 rfl) ?_
          refine lv_iconst (v := nI 0) hx hb dX0_settle_46 (by decide) ?_
          refine cp_sz (v := 0) hx hb hts hinX0 hown hK hP hD hS (hts (.fieldLink RX0 29 "FencedWords$Log" "size" "I") (List.mem_of_getElem? (i := 2) rfl)) dX0_settle_47 (fun H locs hP hD hS => ?_)
          refine lv_aload_n hx hb dX0_settle_50 rfl (lv_at hl 0 rfl) ?_
          refine lv_iconst (v := nI 0) hx hb dX0_settle_51 (by decide) ?_
          refine cp_tk (v := 0) hx hb hts hinX0 hown hK hP hD hS (hts (.fieldLink RX0 25 "FencedWords$Log" "cellsTaken" "I") (List.mem_of_getElem? (i := 4) rfl)) dX0_settle_52 (fun H locs hP hD hS => ?_)
          refine lv_aload_n hx hb dX0_settle_55 rfl (lv_at hl 0 rfl) ?_
          refine lv_iconst (v := nI 0) hx hb dX0_settle_56 (by decide) ?_
          refine cp_nk (v := false) hx hb hts hinX0 hown hK hP hD hS (hts (.fieldLink RX0 42 "FencedWords$Log" "newestNotKept" "Z") (List.mem_of_getElem? (i := 1) rfl)) dX0_settle_57 (fun H locs hP hD hS => ?_)
          refine lv_aload_n hx hb dX0_settle_60 rfl (lv_at hl 0 rfl) ?_
          refine lv_iconst (v := nI 0) hx hb dX0_settle_61 (by decide) ?_
          refine cp_xo (v := false) hx hb hts hinX0 hown hK hP hD hS (hts (.fieldLink RX0 46 "FencedWords$Log" "crossedOut" "Z") (List.mem_of_getElem? (i := 5) rfl)) dX0_settle_62 (fun H locs hP hD hS => ?_)
          exact retGv hx hb hr hlocks hK hP hD hS dX0_settle_65 (congrArg (fun z => wC a y z t) (show cs_xo (cs_nk (cs_tk (cs_sz (cs_tk (cs_sz c ((c_sz c) - 1)) (c_sc c ((c_sz c) - 1))) 0) 0) false) false = settleF c w x by (simp [settleF, h4, h8, h38, h42] <;> rfl)))
