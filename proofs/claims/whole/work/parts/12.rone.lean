set_option maxHeartbeats 400000 in
set_option maxRecDepth 100000 in
theorem mX2_word (l : Launch) (y : Nat → ClassId) (t : va_W) (x : Int32)  : MGi l yX2_word wsX2_word 0 0 [.int x] (tyA y) t (bI (isV x)) t := by
  refine MGi.of (cc := cX2_word) (maxL := 1) (by decide) rfl (Nat.le_of_ble_eq_true rfl) ?_
  intro D p e s m below meth c0 A ls hx hb hr hml hown hlocks hts hK hP hD hA hN hl hS
  have hl : lv_has ls 1 [(0, .int x)] := hl
  refine lv_iload_n hx hb dX2_word_0 rfl (lv_at hl 0 rfl) ?_
  refine lv_if_lt (tgt := 14) hx hb dX2_word_1 (by decide) (fun (h1 : x < 0) => ?_) (fun (h1 : ¬ x < 0) => ?_)
  · refine lv_iconst (v := nI 0) hx hb dX2_word_14 (by decide) ?_
    exact retGz hx hb hr hlocks hK hP hD hS dX2_word_15 (by simp [isV, bI, h1] <;> rfl) rfl
  · refine lv_iload_n hx hb dX2_word_4 rfl (lv_at hl 0 rfl) ?_
    refine lv_bipush (v := nI 31) hx hb dX2_word_5 (by decide) ?_
    refine lv_icmp_gt (tgt := 14) hx hb dX2_word_7 (by decide) (fun (h7 : (nI 31) < x) => ?_) (fun (h7 : ¬ (nI 31) < x) => ?_)
    · refine lv_iconst (v := nI 0) hx hb dX2_word_14 (by decide) ?_
      exact retGz hx hb hr hlocks hK hP hD hS dX2_word_15 (by simp [isV, bI, h1, h7] <;> rfl) rfl
    · refine lv_iconst (v := nI 1) hx hb dX2_word_10 (by decide) ?_
      refine lv_goto (tgt := 15) hx hb dX2_word_11 (by decide) ?_
      exact retGz hx hb hr hlocks hK hP hD hS dX2_word_15 (by simp [isV, bI, h1, h7] <;> rfl) rfl
theorem in_X2_X2_list : ∀ w ∈ wsX20, w ∈ wsX2_list := fun w h => List.mem_cons_of_mem _ (List.mem_append_right _ (h))
set_option maxHeartbeats 400000 in
set_option maxRecDepth 100000 in
theorem mX2_list (l : Launch) (y : Nat → ClassId) (t : va_W) (b : Nat → Nat) (r : RS) (w o : Nat) (v : Int64) (hac : r_ac r < 64) : MGv l yX2_list wsX2_list 0 0 [.ref (b 0), .int (nI w), .int (nI o), .long v] (tyA y) (wR b y r t) (wR b y (listA w o v r) t) := by
  refine MGv.of (cc := cX2_list) (maxL := 5) (by decide) rfl (Nat.le_of_ble_eq_true rfl) ?_
  intro D p e s m below meth c0 A ls hx hb hr hml hown hlocks hts hK hP hD hA hN hl hS
  have hl : lv_has ls 5 [(0, .ref (b 0)), (1, .int (nI w)), (2, .int (nI o)), (3, .long v)] := hl
  have hinX2 : ∀ w ∈ u_ws RX2 TX2 19, w ∈ wsX2_list := in_X2_X2_list
  refine lv_aload_n hx hb dX2_list_0 rfl (lv_at hl 0 rfl) ?_
  refine rg_r10 hx hb hts hinX2 hown hK hP (hts (.fieldLink RX2 39 "FencedWordsModel" "act" "[I") (List.mem_of_getElem? (i := 1) rfl)) dX2_list_1 ?_
  refine lv_aload_n hx hb dX2_list_4 rfl (lv_at hl 0 rfl) ?_
  refine rg_ac hx hb hts hinX2 hown hK hP (hts (.fieldLink RX2 48 "FencedWordsModel" "acts" "I") (List.mem_of_getElem? (i := 2) rfl)) dX2_list_5 ?_
  refine lv_iload_n hx hb dX2_list_8 rfl (lv_at hl 1 rfl) ?_
  refine rt_an (v := w) hx hb hK hP hD hS (show (r_ac r) < 64 by omega) dX2_list_9 (fun H locs hP hD hS => ?_)
  refine lv_aload_n hx hb dX2_list_10 rfl (lv_at hl 0 rfl) ?_
  refine rg_r11 hx hb hts hinX2 hown hK hP (hts (.fieldLink RX2 42 "FencedWordsModel" "on" "[I") (List.mem_of_getElem? (i := 3) rfl)) dX2_list_11 ?_
  refine lv_aload_n hx hb dX2_list_14 rfl (lv_at hl 0 rfl) ?_
  refine rg_ac hx hb hts hinX2 hown hK hP (hts (.fieldLink RX2 48 "FencedWordsModel" "acts" "I") (List.mem_of_getElem? (i := 2) rfl)) dX2_list_15 ?_
  refine lv_iload_n hx hb dX2_list_18 rfl (lv_at hl 2 rfl) ?_
  refine rt_on (v := o) hx hb hK hP hD hS (show (r_ac r) < 64 by omega) dX2_list_19 (fun H locs hP hD hS => ?_)
  refine lv_aload_n hx hb dX2_list_20 rfl (lv_at hl 0 rfl) ?_
  refine rg_r12 hx hb hts hinX2 hown hK hP (hts (.fieldLink RX2 45 "FencedWordsModel" "with" "[J") (List.mem_of_getElem? (i := 4) rfl)) dX2_list_21 ?_
  refine lv_aload_n hx hb dX2_list_24 rfl (lv_at hl 0 rfl) ?_
  refine rg_ac hx hb hts hinX2 hown hK hP (hts (.fieldLink RX2 48 "FencedWordsModel" "acts" "I") (List.mem_of_getElem? (i := 2) rfl)) dX2_list_25 ?_
  refine lv_lload_n hx hb dX2_list_28 rfl (lv_at hl 3 rfl) ?_
  refine rt_wi (v := v) hx hb hK hP hD hS (show (r_ac r) < 64 by omega) dX2_list_29 (fun H locs hP hD hS => ?_)
  refine lv_aload_n hx hb dX2_list_30 rfl (lv_at hl 0 rfl) ?_
  refine lv_dup hx hb dX2_list_31 rfl ?_
  refine rg_ac hx hb hts hinX2 hown hK hP (hts (.fieldLink RX2 48 "FencedWordsModel" "acts" "I") (List.mem_of_getElem? (i := 2) rfl)) dX2_list_32 ?_
  refine lv_iconst (v := nI 1) hx hb dX2_list_35 (by decide) ?_
  refine q_iadd hx hb dX2_list_36 ?_
  refine rp_ac (v := (r_ac r) + 1) hx hb hts hinX2 hown hK hP hD hS (hts (.fieldLink RX2 48 "FencedWordsModel" "acts" "I") (List.mem_of_getElem? (i := 2) rfl)) dX2_list_37 (fun H locs hP hD hS => ?_)
  exact retGv hx hb hr hlocks hK hP hD hS dX2_list_40 rfl
theorem in_X2_X2_fence : ∀ w ∈ wsX20, w ∈ wsX2_fence := fun w h => List.mem_cons_of_mem _ (List.mem_append_right _ (h))
set_option maxHeartbeats 400000 in
set_option maxRecDepth 100000 in
theorem mX2_fence (l : Launch) (y : Nat → ClassId) (t : va_W) (b : Nat → Nat) (r : RS)  : MGv l yX2_fence wsX2_fence 0 0 [.ref (b 0)] (tyA y) (wR b y r t) (wR b y (fenceR r) t) := by
  refine MGv.of (cc := cX2_fence) (maxL := 2) (by decide) rfl (Nat.le_of_ble_eq_true rfl) ?_
  intro D p e s m below meth c0 A ls hx hb hr hml hown hlocks hts hK hP hD hA hN hl hS
  have hl : lv_has ls 2 [(0, .ref (b 0))] := hl
  have hinX2 : ∀ w ∈ u_ws RX2 TX2 19, w ∈ wsX2_fence := in_X2_X2_fence
  refine lv_iconst (v := nI 0) hx hb dX2_fence_0 (by decide) ?_
  refine lv_istore_n (lv' := [(1, .int (nI 0)), (0, .ref (b 0))]) hx hb dX2_fence_1 rfl hl (by decide) rfl (fun ls hl => ?_)
  have loop : ∀ (n2 : Nat) (i : Nat) (H : Heap) (locs : List Loc) (ls : Array Slot), (i ≤ 32) → (33 ≤ i + n2) → va_P D vwCl (wR b y (rs_K r (keepR r i)) t) H → va_D A (wR b y (rs_K r (keepR r i)) t) → va_S A s.heap H locs → lv_has ls 2 [(0, .ref (b 0)), (1, .int (nI i))] → W p l e ({ frames := 0, cells := 0, slots := 0, locals := 0 }) s m [.ref (b 0)].toArray below meth c0 H locs 0 0 (GQv below D (tyA y) A (wR b y (fenceR r) t) [.ref (b 0)].toArray s) (F0 m 2 ls []) := by
    intro n2
    induction n2 with
    | zero =>
      intro i H locs ls hi hn hP hD hS hl
      omega
    | succ n2 ih2 =>
      intro i H locs ls hi hn hP hD hS hl
      refine lv_iload_n hx hb dX2_fence_2 rfl (lv_at hl 1 rfl) ?_
      refine lv_bipush (v := nI 32) hx hb dX2_fence_3 (by decide) ?_
      refine q_icmp_ge (tgt := 47) hx hb (show i < 2 ^ 31 by omega) (show 32 < 2 ^ 31 by omega) dX2_fence_5 (by decide) (fun (h5 : 32 ≤ i) => ?_) (fun (h5 : i < 32) => ?_)
      · have e32 : i = 32 := by omega
        subst e32
        refine lv_iconst (v := nI 0) hx hb dX2_fence_47 (by decide) ?_
        refine lv_istore_n (lv' := [(1, .int (nI 0)), (0, .ref (b 0))]) hx hb dX2_fence_48 rfl hl (by decide) rfl (fun ls hl => ?_)
        have loop2 : ∀ (n49 : Nat) (i : Nat) (H : Heap) (locs : List Loc) (ls : Array Slot), (i ≤ 4) → (5 ≤ i + n49) → va_P D vwCl (wR b y (rs_fl (rs_K r (keepR r 32)) (clrB (r_fl r) i)) t) H → va_D A (wR b y (rs_fl (rs_K r (keepR r 32)) (clrB (r_fl r) i)) t) → va_S A s.heap H locs → lv_has ls 2 [(0, .ref (b 0)), (1, .int (nI i))] → W p l e ({ frames := 0, cells := 0, slots := 0, locals := 0 }) s m [.ref (b 0)].toArray below meth c0 H locs 0 0 (GQv below D (tyA y) A (wR b y (fenceR r) t) [.ref (b 0)].toArray s) (F0 m 49 ls []) := by
          intro n49
          induction n49 with
          | zero =>
            intro i H locs ls hi hn hP hD hS hl
            omega
          | succ n49 ih49 =>
            intro i H locs ls hi hn hP hD hS hl
            refine lv_iload_n hx hb dX2_fence_49 rfl (lv_at hl 1 rfl) ?_
            refine lv_iconst (v := nI 4) hx hb dX2_fence_50 (by decide) ?_
            refine q_icmp_ge (tgt := 67) hx hb (show i < 2 ^ 31 by omega) (show 4 < 2 ^ 31 by omega) dX2_fence_51 (by decide) (fun (h51 : 4 ≤ i) => ?_) (fun (h51 : i < 4) => ?_)
            · have e4 : i = 4 := by omega
              subst e4
              exact retGv hx hb hr hlocks hK hP hD hS dX2_fence_67 rfl
            · refine lv_aload_n hx hb dX2_fence_54 rfl (lv_at hl 0 rfl) ?_
              refine rg_r3 hx hb hts hinX2 hown hK hP (hts (.fieldLink RX2 16 "FencedWordsModel" "flushed" "[Z") (List.mem_of_getElem? (i := 2) rfl)) dX2_fence_55 ?_
              refine lv_iload_n hx hb dX2_fence_58 rfl (lv_at hl 1 rfl) ?_
              refine lv_iconst (v := nI 0) hx hb dX2_fence_59 (by decide) ?_
              refine rt_fl (v := false) hx hb hK hP hD hS (show i < 4 by omega) dX2_fence_60 (fun H locs hP hD hS => ?_)
              refine lv_iinc (v := nI (i + 1)) (lv' := [(1, .int (nI (i + 1))), (0, .ref (b 0))]) hx hb dX2_fence_61 hl (k := 1) rfl (nI_add i 1) (by decide) rfl (fun ls hl => ?_)
              refine lv_goto (tgt := 49) hx hb dX2_fence_64 (by decide) ?_
              have hP : va_P D vwCl (wR b y (rs_fl (rs_fl (rs_K r (keepR r 32)) (clrB (r_fl r) i)) (upB (clrB (r_fl r) i) i false)) t) H := hP
              have hD : va_D A (wR b y (rs_fl (rs_fl (rs_K r (keepR r 32)) (clrB (r_fl r) i)) (upB (clrB (r_fl r) i) i false)) t) := hD
              rw [rss_fl, clrB_s] at hP hD
              exact ih49 (i + 1) _ _ _ (by omega) (by omega) hP hD hS (lv_sub hl [1, 0] rfl)
        have e0 : rs_K r (keepR r 32) = rs_fl (rs_K r (keepR r 32)) (clrB (r_fl r) 0) := (by rw [clrB_0]; rfl)
        rw [e0] at hP hD
        exact loop2 5 0 _ _ _ (by omega) (by omega) hP hD hS (lv_sub hl [1, 0] rfl)
      · refine lv_aload_n hx hb dX2_fence_8 rfl (lv_at hl 0 rfl) ?_
        refine rg_r2 hx hb hts hinX2 hown hK hP (hts (.fieldLink RX2 13 "FencedWordsModel" "kept" "[J") (List.mem_of_getElem? (i := 1) rfl)) dX2_fence_9 ?_
        refine lv_iload_n hx hb dX2_fence_12 rfl (lv_at hl 1 rfl) ?_
        refine lv_aload_n hx hb dX2_fence_13 rfl (lv_at hl 0 rfl) ?_
        refine rg_r3 hx hb hts hinX2 hown hK hP (hts (.fieldLink RX2 16 "FencedWordsModel" "flushed" "[Z") (List.mem_of_getElem? (i := 2) rfl)) dX2_fence_14 ?_
        refine lv_iload_n hx hb dX2_fence_17 rfl (lv_at hl 1 rfl) ?_
        refine lv_bipush (v := nI 8) hx hb dX2_fence_18 (by decide) ?_
        refine q_idiv hx hb (show i < 2 ^ 31 by omega) (show 0 < 8 by omega) (show 8 < 2 ^ 31 by omega) dX2_fence_20 ?_
        refine rl_fl hx hb hK hP (show (i / 8) < 4 by omega) dX2_fence_21 ?_
        refine q_ifb_eq (tgt := 34) hx hb dX2_fence_22 (by decide) (fun (h22 : (r_fl r (i / 8)) = false) => ?_) (fun (h22 : (r_fl r (i / 8)) = true) => ?_)
        · refine lv_aload_n hx hb dX2_fence_34 rfl (lv_at hl 0 rfl) ?_
          refine rg_r2 hx hb hts hinX2 hown hK hP (hts (.fieldLink RX2 13 "FencedWordsModel" "kept" "[J") (List.mem_of_getElem? (i := 1) rfl)) dX2_fence_35 ?_
          refine lv_iload_n hx hb dX2_fence_38 rfl (lv_at hl 1 rfl) ?_
          refine rl_K hx hb hK hP (show i < 32 by omega) dX2_fence_39 ?_
          refine rt_K (v := (keepR r i) i) hx hb hK hP hD hS (show i < 32 by omega) dX2_fence_40 (fun H locs hP hD hS => ?_)
          refine lv_iinc (v := nI (i + 1)) (lv' := [(1, .int (nI (i + 1))), (0, .ref (b 0))]) hx hb dX2_fence_41 hl (k := 1) rfl (nI_add i 1) (by decide) rfl (fun ls hl => ?_)
          refine lv_goto (tgt := 2) hx hb dX2_fence_44 (by decide) ?_
          have hP : va_P D vwCl (wR b y (rs_K (rs_K r (keepR r i)) (vp_updL (keepR r i) i ((keepR r i) i))) t) H := hP
          have hD : va_D A (wR b y (rs_K (rs_K r (keepR r i)) (vp_updL (keepR r i) i ((keepR r i) i))) t) := hD
          rw [rss_K, keepR_f h22] at hP hD
          exact ih2 (i + 1) _ _ _ (by omega) (by omega) hP hD hS (lv_sub hl [1, 0] rfl)
        · refine lv_aload_n hx hb dX2_fence_25 rfl (lv_at hl 0 rfl) ?_
          refine rg_r1 hx hb hts hinX2 hown hK hP (hts (.fieldLink RX2 7 "FencedWordsModel" "seen" "[J") (List.mem_of_getElem? (i := 3) rfl)) dX2_fence_26 ?_
          refine lv_iload_n hx hb dX2_fence_29 rfl (lv_at hl 1 rfl) ?_
          refine rl_S hx hb hK hP (show i < 32 by omega) dX2_fence_30 ?_
          refine lv_goto (tgt := 40) hx hb dX2_fence_31 (by decide) ?_
          refine rt_K (v := r_S r i) hx hb hK hP hD hS (show i < 32 by omega) dX2_fence_40 (fun H locs hP hD hS => ?_)
          refine lv_iinc (v := nI (i + 1)) (lv' := [(1, .int (nI (i + 1))), (0, .ref (b 0))]) hx hb dX2_fence_41 hl (k := 1) rfl (nI_add i 1) (by decide) rfl (fun ls hl => ?_)
          refine lv_goto (tgt := 2) hx hb dX2_fence_44 (by decide) ?_
          have hP : va_P D vwCl (wR b y (rs_K (rs_K r (keepR r i)) (vp_updL (keepR r i) i (r_S r i))) t) H := hP
          have hD : va_D A (wR b y (rs_K (rs_K r (keepR r i)) (vp_updL (keepR r i) i (r_S r i))) t) := hD
          rw [rss_K, keepR_t h22] at hP hD
          exact ih2 (i + 1) _ _ _ (by omega) (by omega) hP hD hS (lv_sub hl [1, 0] rfl)
  have e0 : r = rs_K r (keepR r 0) := (by rw [keepR_0]; rfl)
  rw [e0] at hP hD
  exact loop 33 0 _ _ _ (by omega) (by omega) hP hD hS (lv_sub hl [1, 0] rfl)
theorem in_X2_X2_stand : ∀ w ∈ wsX20, w ∈ wsX2_stand := fun w h => List.mem_cons_of_mem _ (List.mem_append_right _ (h))
set_option maxHeartbeats 400000 in
set_option maxRecDepth 100000 in
theorem mX2_stand (l : Launch) (y : Nat → ClassId) (t : va_W) (b : Nat → Nat) (r : RS) (h : Nat) (hz : r_rc r ≤ 20) : MGv l yX2_stand wsX2_stand 0 0 [.ref (b 0), .int (nI h)] (tyA y) (wR b y r t) (wR b y (standR h r) t) := by
  refine MGv.of (cc := cX2_stand) (maxL := 3) (by decide) rfl (Nat.le_of_ble_eq_true rfl) ?_
  intro D p e s m below meth c0 A ls hx hb hr hml hown hlocks hts hK hP hD hA hN hl hS
  have hl : lv_has ls 3 [(0, .ref (b 0)), (1, .int (nI h))] := hl
  have hinX2 : ∀ w ∈ u_ws RX2 TX2 19, w ∈ wsX2_stand := in_X2_X2_stand
  refine lv_iconst (v := nI 0) hx hb dX2_stand_0 (by decide) ?_
  refine lv_istore_n (lv' := [(2, .int (nI 0)), (0, .ref (b 0)), (1, .int (nI h))]) hx hb dX2_stand_1 rfl hl (by decide) rfl (fun ls hl => ?_)
  have loop : ∀ (n2 : Nat) (i : Nat) (H : Heap) (locs : List Loc) (ls : Array Slot), (i ≤ r_rc r) → (r_rc r + 1 ≤ i + n2) → va_P D vwCl (wR b y (rs_st r (setTo (r_st r) i h)) t) H → va_D A (wR b y (rs_st r (setTo (r_st r) i h)) t) → va_S A s.heap H locs → lv_has ls 3 [(0, .ref (b 0)), (1, .int (nI h)), (2, .int (nI i))] → W p l e ({ frames := 0, cells := 0, slots := 0, locals := 0 }) s m [.ref (b 0), .int (nI h)].toArray below meth c0 H locs 0 0 (GQv below D (tyA y) A (wR b y (standR h r) t) [.ref (b 0), .int (nI h)].toArray s) (F0 m 2 ls []) := by
    intro n2
    induction n2 with
    | zero =>
      intro i H locs ls hi hn hP hD hS hl
      omega
    | succ n2 ih2 =>
      intro i H locs ls hi hn hP hD hS hl
      refine lv_iload_n hx hb dX2_stand_2 rfl (lv_at hl 2 rfl) ?_
      refine lv_aload_n hx hb dX2_stand_3 rfl (lv_at hl 0 rfl) ?_
      refine rg_rc hx hb hts hinX2 hown hK hP (hts (.fieldLink RX2 52 "FencedWordsModel" "records" "I") (List.mem_of_getElem? (i := 1) rfl)) dX2_stand_4 ?_
      refine q_icmp_ge (tgt := 23) hx hb (show i < 2 ^ 31 by omega) (show (r_rc r) < 2 ^ 31 by omega) dX2_stand_7 (by decide) (fun (h7 : (r_rc r) ≤ i) => ?_) (fun (h7 : i < (r_rc r)) => ?_)
      · have er : i = r_rc r := by omega
        subst er
        exact retGv hx hb hr hlocks hK hP hD hS dX2_stand_23 rfl
      · refine lv_aload_n hx hb dX2_stand_10 rfl (lv_at hl 0 rfl) ?_
        refine rg_r7 hx hb hts hinX2 hown hK hP (hts (.fieldLink RX2 30 "FencedWordsModel" "stands" "[I") (List.mem_of_getElem? (i := 2) rfl)) dX2_stand_11 ?_
        refine lv_iload_n hx hb dX2_stand_14 rfl (lv_at hl 2 rfl) ?_
        refine lv_iload_n hx hb dX2_stand_15 rfl (lv_at hl 1 rfl) ?_
        refine rt_st (v := h) hx hb hK hP hD hS (show i < 20 by omega) dX2_stand_16 (fun H locs hP hD hS => ?_)
        refine lv_iinc (v := nI (i + 1)) (lv' := [(2, .int (nI (i + 1))), (0, .ref (b 0)), (1, .int (nI h))]) hx hb dX2_stand_17 hl (k := 2) rfl (nI_add i 1) (by decide) rfl (fun ls hl => ?_)
        refine lv_goto (tgt := 2) hx hb dX2_stand_20 (by decide) ?_
        have hP : va_P D vwCl (wR b y (rs_st (rs_st r (setTo (r_st r) i h)) (upN (setTo (r_st r) i h) i h)) t) H := hP
        have hD : va_D A (wR b y (rs_st (rs_st r (setTo (r_st r) i h)) (upN (setTo (r_st r) i h) i h)) t) := hD
        rw [rss_st, setTo_s] at hP hD
        exact ih2 (i + 1) _ _ _ (by omega) (by omega) hP hD hS (lv_sub hl [1, 2, 0] rfl)
  have e0 : r = rs_st r (setTo (r_st r) 0 h) := (by rw [setTo_0]; rfl)
  rw [e0] at hP hD
  exact loop (r_rc r + 1) 0 _ _ _ (by omega) (by omega) hP hD hS (lv_sub hl [1, 2, 0] rfl)
theorem in_X2_X2_bit : ∀ w ∈ wsX20, w ∈ wsX2_bit := fun w h => List.mem_cons_of_mem _ (List.mem_append_right _ (h))
set_option maxHeartbeats 400000 in
set_option maxRecDepth 100000 in
theorem mX2_bit (l : Launch) (y : Nat → ClassId) (t : va_W) (b : Nat → Nat) (r : RS) (k : Nat) (hk : k < 64) : MGi l yX2_bit wsX2_bit 0 0 [.ref (b 0), .int (nI k)] (tyA y) (wR b y r t) (bI (hbL (r_mk r) k)) (wR b y r t) := by
  refine MGi.of (cc := cX2_bit) (maxL := 2) (by decide) rfl (Nat.le_of_ble_eq_true rfl) ?_
  intro D p e s m below meth c0 A ls hx hb hr hml hown hlocks hts hK hP hD hA hN hl hS
  have hl : lv_has ls 2 [(0, .ref (b 0)), (1, .int (nI k))] := hl
  have hinX2 : ∀ w ∈ u_ws RX2 TX2 19, w ∈ wsX2_bit := in_X2_X2_bit
  refine lv_aload_n hx hb dX2_bit_0 rfl (lv_at hl 0 rfl) ?_
  refine rg_mk hx hb hts hinX2 hown hK hP (hts (.fieldLink RX2 74 "FencedWordsModel" "mask" "J") (List.mem_of_getElem? (i := 1) rfl)) dX2_bit_1 ?_
  refine lv_iload_n hx hb dX2_bit_4 rfl (lv_at hl 1 rfl) ?_
  refine lv_lshr hx hb dX2_bit_5 rfl ?_
  refine lv_lconst (v := 1) hx hb dX2_bit_6 (by decide) ?_
  refine lv_land hx hb dX2_bit_7 ?_
  refine lv_lconst (v := 1) hx hb dX2_bit_8 (by decide) ?_
  refine W.lcmp hx hb dX2_bit_9 ?_
  refine lv_if_ne (tgt := 17) hx hb dX2_bit_10 (by decide) (fun (h10 : ¬ (lg_cmp (((r_mk r) >>> ((nI k).toInt64 &&& 63)) &&& 1) 1) = 0) => ?_) (fun (h10 : (lg_cmp (((r_mk r) >>> ((nI k).toInt64 &&& 63)) &&& 1) 1) = 0) => ?_)
  · refine lv_iconst (v := nI 0) hx hb dX2_bit_17 (by decide) ?_
    exact retGz hx hb hr hlocks hK hP hD hS dX2_bit_18 (by have q := sb_cmp1 (r_mk r) hk; simp [h10] at q; simp [q, bI] <;> rfl) rfl
  · refine lv_iconst (v := nI 1) hx hb dX2_bit_13 (by decide) ?_
    refine lv_goto (tgt := 18) hx hb dX2_bit_14 (by decide) ?_
    exact retGz hx hb hr hlocks hK hP hD hS dX2_bit_18 (by have q := sb_cmp1 (r_mk r) hk; simp [h10] at q; simp [q, bI] <;> rfl) rfl
theorem in_X2_X2_one : ∀ w ∈ wsX20, w ∈ wsX2_one := fun w h => List.mem_cons_of_mem _ (List.mem_append_right _ (h))
set_option maxHeartbeats 400000 in
set_option maxRecDepth 100000 in
theorem mX2_one_0 (l : Launch) (y : Nat → ClassId) (t : va_W) (b : Nat → Nat) (r : RS) (k : Nat) (hk : k < 64) (hz : r_rc r ≤ 20) (hw : r_an r k = 0)  : MGv l yX2_one wsX2_one 1 22 [.ref (b 0), .int (nI k)] (tyA y) (wR b y r t) (wR b y (oneR 0 (r_on r k) (r_wi r k) r) t) := by
  refine MGv.of (cc := cX2_one) (maxL := 3) (by decide) rfl (Nat.le_of_ble_eq_true rfl) ?_
  intro D p e s m below meth c0 A ls hx hb hr hml hown hlocks hts hK hP hD hA hN hl hS
  have hl : lv_has ls 3 [(0, .ref (b 0)), (1, .int (nI k))] := hl
  have hinX2 : ∀ w ∈ u_ws RX2 TX2 19, w ∈ wsX2_one := in_X2_X2_one
  refine lv_aload_n hx hb dX2_one_0 rfl (lv_at hl 0 rfl) ?_
  refine rg_r10 hx hb hts hinX2 hown hK hP (hts (.fieldLink RX2 39 "FencedWordsModel" "act" "[I") (List.mem_of_getElem? (i := 1) rfl)) dX2_one_1 ?_
  refine lv_iload_n hx hb dX2_one_4 rfl (lv_at hl 1 rfl) ?_
  refine rl_an hx hb hK hP (show k < 64 by omega) dX2_one_5 ?_
  rw [hw]
  refine lv_istore_n (lv' := [(2, .int (nI 0)), (0, .ref (b 0)), (1, .int (nI k))]) hx hb dX2_one_6 rfl hl (by decide) rfl (fun ls hl => ?_)
  refine lv_aload_n hx hb dX2_one_7 rfl (lv_at hl 1 rfl) ?_
  refine lv_dup hx hb dX2_one_8 rfl ?_
  refine rg_me hx hb hts hinX2 hown hK hP (hts (.fieldLink RX2 55 "FencedWordsModel" "meter" "I") (List.mem_of_getElem? (i := 2) rfl)) dX2_one_9 ?_
  refine lv_iconst (v := nI 1) hx hb dX2_one_12 (by decide) ?_
  refine lv_iadd hx hb dX2_one_13 ?_
  refine rp_me (v := (r_me r) + (nI 1)) hx hb hts hinX2 hown hK hP hD hS (hts (.fieldLink RX2 55 "FencedWordsModel" "meter" "I") (List.mem_of_getElem? (i := 2) rfl)) dX2_one_14 (fun H locs hP hD hS => ?_)
  refine lv_iload_n hx hb dX2_one_17 rfl (lv_at hl 0 rfl) ?_
  refine lv_iconst (v := nI 1) hx hb dX2_one_18 (by decide) ?_
  refine q_icmp_ne (tgt := 39) hx hb (show 0 < 2 ^ 31 by omega) (show 1 < 2 ^ 31 by omega) dX2_one_19 (by decide) (fun _ => ?_) (fun h19 => absurd h19 (by decide))
  refine lv_iload_n hx hb dX2_one_39 rfl (lv_at hl 0 rfl) ?_
  refine lv_iconst (v := nI 2) hx hb dX2_one_40 (by decide) ?_
  refine q_icmp_ne (tgt := 56) hx hb (show 0 < 2 ^ 31 by omega) (show 2 < 2 ^ 31 by omega) dX2_one_41 (by decide) (fun _ => ?_) (fun h41 => absurd h41 (by decide))
  refine lv_iload_n hx hb dX2_one_56 rfl (lv_at hl 0 rfl) ?_
  refine lv_iconst (v := nI 3) hx hb dX2_one_57 (by decide) ?_
  refine q_icmp_eq (tgt := 72) hx hb (show 0 < 2 ^ 31 by omega) (show 3 < 2 ^ 31 by omega) dX2_one_58 (by decide) (fun h58 => absurd h58 (by decide)) (fun _ => ?_)
  refine lv_iload_n hx hb dX2_one_61 rfl (lv_at hl 0 rfl) ?_
  refine lv_iconst (v := nI 5) hx hb dX2_one_62 (by decide) ?_
  refine q_icmp_eq (tgt := 72) hx hb (show 0 < 2 ^ 31 by omega) (show 5 < 2 ^ 31 by omega) dX2_one_63 (by decide) (fun h63 => absurd h63 (by decide)) (fun _ => ?_)
  refine lv_iload_n hx hb dX2_one_66 rfl (lv_at hl 0 rfl) ?_
  refine lv_bipush (v := nI 7) hx hb dX2_one_67 (by decide) ?_
  refine q_icmp_ne (tgt := 76) hx hb (show 0 < 2 ^ 31 by omega) (show 7 < 2 ^ 31 by omega) dX2_one_69 (by decide) (fun _ => ?_) (fun h69 => absurd h69 (by decide))
  refine lv_iload_n hx hb dX2_one_76 rfl (lv_at hl 0 rfl) ?_
  refine lv_iconst (v := nI 4) hx hb dX2_one_77 (by decide) ?_
  refine q_icmp_ne (tgt := 93) hx hb (show 0 < 2 ^ 31 by omega) (show 4 < 2 ^ 31 by omega) dX2_one_78 (by decide) (fun _ => ?_) (fun h78 => absurd h78 (by decide))
  refine lv_iload_n hx hb dX2_one_93 rfl (lv_at hl 0 rfl) ?_
  refine lv_iconst (v := nI 5) hx hb dX2_one_94 (by decide) ?_
  refine q_icmp_ne (tgt := 110) hx hb (show 0 < 2 ^ 31 by omega) (show 5 < 2 ^ 31 by omega) dX2_one_95 (by decide) (fun _ => ?_) (fun h95 => absurd h95 (by decide))
  refine lv_iload_n hx hb dX2_one_110 rfl (lv_at hl 0 rfl) ?_
  refine lv_bipush (v := nI 6) hx hb dX2_one_111 (by decide) ?_
  refine q_icmp_ne (tgt := 121) hx hb (show 0 < 2 ^ 31 by omega) (show 6 < 2 ^ 31 by omega) dX2_one_113 (by decide) (fun _ => ?_) (fun h113 => absurd h113 (by decide))
  refine lv_iload_n hx hb dX2_one_121 rfl (lv_at hl 0 rfl) ?_
  refine lv_bipush (v := nI 7) hx hb dX2_one_122 (by decide) ?_
  refine q_icmp_ne (tgt := 132) hx hb (show 0 < 2 ^ 31 by omega) (show 7 < 2 ^ 31 by omega) dX2_one_124 (by decide) (fun _ => ?_) (fun h124 => absurd h124 (by decide))
  exact retGv hx hb hr hlocks hK hP hD hS dX2_one_132 rfl
set_option maxHeartbeats 400000 in
set_option maxRecDepth 100000 in
theorem mX2_one_1 (l : Launch) (y : Nat → ClassId) (t : va_W) (b : Nat → Nat) (r : RS) (k : Nat) (hk : k < 64) (hz : r_rc r ≤ 20) (hw : r_an r k = 1) (h1 : r_on r k < 32) : MGv l yX2_one wsX2_one 1 22 [.ref (b 0), .int (nI k)] (tyA y) (wR b y r t) (wR b y (oneR 1 (r_on r k) (r_wi r k) r) t) := by
  refine MGv.of (cc := cX2_one) (maxL := 3) (by decide) rfl (Nat.le_of_ble_eq_true rfl) ?_
  intro D p e s m below meth c0 A ls hx hb hr hml hown hlocks hts hK hP hD hA hN hl hS
  have hl : lv_has ls 3 [(0, .ref (b 0)), (1, .int (nI k))] := hl
  have hinX2 : ∀ w ∈ u_ws RX2 TX2 19, w ∈ wsX2_one := in_X2_X2_one
  refine lv_aload_n hx hb dX2_one_0 rfl (lv_at hl 0 rfl) ?_
  refine rg_r10 hx hb hts hinX2 hown hK hP (hts (.fieldLink RX2 39 "FencedWordsModel" "act" "[I") (List.mem_of_getElem? (i := 1) rfl)) dX2_one_1 ?_
  refine lv_iload_n hx hb dX2_one_4 rfl (lv_at hl 1 rfl) ?_
  refine rl_an hx hb hK hP (show k < 64 by omega) dX2_one_5 ?_
  rw [hw]
  refine lv_istore_n (lv' := [(2, .int (nI 1)), (0, .ref (b 0)), (1, .int (nI k))]) hx hb dX2_one_6 rfl hl (by decide) rfl (fun ls hl => ?_)
  refine lv_aload_n hx hb dX2_one_7 rfl (lv_at hl 1 rfl) ?_
  refine lv_dup hx hb dX2_one_8 rfl ?_
  refine rg_me hx hb hts hinX2 hown hK hP (hts (.fieldLink RX2 55 "FencedWordsModel" "meter" "I") (List.mem_of_getElem? (i := 2) rfl)) dX2_one_9 ?_
  refine lv_iconst (v := nI 1) hx hb dX2_one_12 (by decide) ?_
  refine lv_iadd hx hb dX2_one_13 ?_
  refine rp_me (v := (r_me r) + (nI 1)) hx hb hts hinX2 hown hK hP hD hS (hts (.fieldLink RX2 55 "FencedWordsModel" "meter" "I") (List.mem_of_getElem? (i := 2) rfl)) dX2_one_14 (fun H locs hP hD hS => ?_)
  refine lv_iload_n hx hb dX2_one_17 rfl (lv_at hl 0 rfl) ?_
  refine lv_iconst (v := nI 1) hx hb dX2_one_18 (by decide) ?_
  refine q_icmp_ne (tgt := 39) hx hb (show 1 < 2 ^ 31 by omega) (show 1 < 2 ^ 31 by omega) dX2_one_19 (by decide) (fun h19 => absurd h19 (by decide)) (fun _ => ?_)
  refine lv_aload_n hx hb dX2_one_22 rfl (lv_at hl 1 rfl) ?_
  refine rg_r1 hx hb hts hinX2 hown hK hP (hts (.fieldLink RX2 7 "FencedWordsModel" "seen" "[J") (List.mem_of_getElem? (i := 3) rfl)) dX2_one_23 ?_
  refine lv_aload_n hx hb dX2_one_26 rfl (lv_at hl 1 rfl) ?_
  refine rg_r11 hx hb hts hinX2 hown hK hP (hts (.fieldLink RX2 42 "FencedWordsModel" "on" "[I") (List.mem_of_getElem? (i := 4) rfl)) dX2_one_27 ?_
  refine lv_iload_n hx hb dX2_one_30 rfl (lv_at hl 2 rfl) ?_
  refine rl_on hx hb hK hP (show k < 64 by omega) dX2_one_31 ?_
  refine lv_aload_n hx hb dX2_one_32 rfl (lv_at hl 1 rfl) ?_
  refine rg_r12 hx hb hts hinX2 hown hK hP (hts (.fieldLink RX2 45 "FencedWordsModel" "with" "[J") (List.mem_of_getElem? (i := 5) rfl)) dX2_one_33 ?_
  refine lv_iload_n hx hb dX2_one_36 rfl (lv_at hl 2 rfl) ?_
  refine rl_wi hx hb hK hP (show k < 64 by omega) dX2_one_37 ?_
  refine rt_S (v := r_wi r k) hx hb hK hP hD hS (show (r_on r k) < 32 by omega) dX2_one_38 (fun H locs hP hD hS => ?_)
  refine lv_iload_n hx hb dX2_one_39 rfl (lv_at hl 0 rfl) ?_
  refine lv_iconst (v := nI 2) hx hb dX2_one_40 (by decide) ?_
  refine q_icmp_ne (tgt := 56) hx hb (show 1 < 2 ^ 31 by omega) (show 2 < 2 ^ 31 by omega) dX2_one_41 (by decide) (fun _ => ?_) (fun h41 => absurd h41 (by decide))
  refine lv_iload_n hx hb dX2_one_56 rfl (lv_at hl 0 rfl) ?_
  refine lv_iconst (v := nI 3) hx hb dX2_one_57 (by decide) ?_
  refine q_icmp_eq (tgt := 72) hx hb (show 1 < 2 ^ 31 by omega) (show 3 < 2 ^ 31 by omega) dX2_one_58 (by decide) (fun h58 => absurd h58 (by decide)) (fun _ => ?_)
  refine lv_iload_n hx hb dX2_one_61 rfl (lv_at hl 0 rfl) ?_
  refine lv_iconst (v := nI 5) hx hb dX2_one_62 (by decide) ?_
  refine q_icmp_eq (tgt := 72) hx hb (show 1 < 2 ^ 31 by omega) (show 5 < 2 ^ 31 by omega) dX2_one_63 (by decide) (fun h63 => absurd h63 (by decide)) (fun _ => ?_)
  refine lv_iload_n hx hb dX2_one_66 rfl (lv_at hl 0 rfl) ?_
  refine lv_bipush (v := nI 7) hx hb dX2_one_67 (by decide) ?_
  refine q_icmp_ne (tgt := 76) hx hb (show 1 < 2 ^ 31 by omega) (show 7 < 2 ^ 31 by omega) dX2_one_69 (by decide) (fun _ => ?_) (fun h69 => absurd h69 (by decide))
  refine lv_iload_n hx hb dX2_one_76 rfl (lv_at hl 0 rfl) ?_
  refine lv_iconst (v := nI 4) hx hb dX2_one_77 (by decide) ?_
  refine q_icmp_ne (tgt := 93) hx hb (show 1 < 2 ^ 31 by omega) (show 4 < 2 ^ 31 by omega) dX2_one_78 (by decide) (fun _ => ?_) (fun h78 => absurd h78 (by decide))
  refine lv_iload_n hx hb dX2_one_93 rfl (lv_at hl 0 rfl) ?_
  refine lv_iconst (v := nI 5) hx hb dX2_one_94 (by decide) ?_
  refine q_icmp_ne (tgt := 110) hx hb (show 1 < 2 ^ 31 by omega) (show 5 < 2 ^ 31 by omega) dX2_one_95 (by decide) (fun _ => ?_) (fun h95 => absurd h95 (by decide))
  refine lv_iload_n hx hb dX2_one_110 rfl (lv_at hl 0 rfl) ?_
  refine lv_bipush (v := nI 6) hx hb dX2_one_111 (by decide) ?_
  refine q_icmp_ne (tgt := 121) hx hb (show 1 < 2 ^ 31 by omega) (show 6 < 2 ^ 31 by omega) dX2_one_113 (by decide) (fun _ => ?_) (fun h113 => absurd h113 (by decide))
  refine lv_iload_n hx hb dX2_one_121 rfl (lv_at hl 0 rfl) ?_
  refine lv_bipush (v := nI 7) hx hb dX2_one_122 (by decide) ?_
  refine q_icmp_ne (tgt := 132) hx hb (show 1 < 2 ^ 31 by omega) (show 7 < 2 ^ 31 by omega) dX2_one_124 (by decide) (fun _ => ?_) (fun h124 => absurd h124 (by decide))
  exact retGv hx hb hr hlocks hK hP hD hS dX2_one_132 rfl
set_option maxHeartbeats 400000 in
set_option maxRecDepth 100000 in
theorem mX2_one_2 (l : Launch) (y : Nat → ClassId) (t : va_W) (b : Nat → Nat) (r : RS) (k : Nat) (hk : k < 64) (hz : r_rc r ≤ 20) (hw : r_an r k = 2) (h1 : r_on r k < 4) : MGv l yX2_one wsX2_one 1 22 [.ref (b 0), .int (nI k)] (tyA y) (wR b y r t) (wR b y (oneR 2 (r_on r k) (r_wi r k) r) t) := by
  refine MGv.of (cc := cX2_one) (maxL := 3) (by decide) rfl (Nat.le_of_ble_eq_true rfl) ?_
  intro D p e s m below meth c0 A ls hx hb hr hml hown hlocks hts hK hP hD hA hN hl hS
  have hl : lv_has ls 3 [(0, .ref (b 0)), (1, .int (nI k))] := hl
  have hinX2 : ∀ w ∈ u_ws RX2 TX2 19, w ∈ wsX2_one := in_X2_X2_one
  refine lv_aload_n hx hb dX2_one_0 rfl (lv_at hl 0 rfl) ?_
  refine rg_r10 hx hb hts hinX2 hown hK hP (hts (.fieldLink RX2 39 "FencedWordsModel" "act" "[I") (List.mem_of_getElem? (i := 1) rfl)) dX2_one_1 ?_
  refine lv_iload_n hx hb dX2_one_4 rfl (lv_at hl 1 rfl) ?_
  refine rl_an hx hb hK hP (show k < 64 by omega) dX2_one_5 ?_
  rw [hw]
  refine lv_istore_n (lv' := [(2, .int (nI 2)), (0, .ref (b 0)), (1, .int (nI k))]) hx hb dX2_one_6 rfl hl (by decide) rfl (fun ls hl => ?_)
  refine lv_aload_n hx hb dX2_one_7 rfl (lv_at hl 1 rfl) ?_
  refine lv_dup hx hb dX2_one_8 rfl ?_
  refine rg_me hx hb hts hinX2 hown hK hP (hts (.fieldLink RX2 55 "FencedWordsModel" "meter" "I") (List.mem_of_getElem? (i := 2) rfl)) dX2_one_9 ?_
  refine lv_iconst (v := nI 1) hx hb dX2_one_12 (by decide) ?_
  refine lv_iadd hx hb dX2_one_13 ?_
  refine rp_me (v := (r_me r) + (nI 1)) hx hb hts hinX2 hown hK hP hD hS (hts (.fieldLink RX2 55 "FencedWordsModel" "meter" "I") (List.mem_of_getElem? (i := 2) rfl)) dX2_one_14 (fun H locs hP hD hS => ?_)
  refine lv_iload_n hx hb dX2_one_17 rfl (lv_at hl 0 rfl) ?_
  refine lv_iconst (v := nI 1) hx hb dX2_one_18 (by decide) ?_
  refine q_icmp_ne (tgt := 39) hx hb (show 2 < 2 ^ 31 by omega) (show 1 < 2 ^ 31 by omega) dX2_one_19 (by decide) (fun _ => ?_) (fun h19 => absurd h19 (by decide))
  refine lv_iload_n hx hb dX2_one_39 rfl (lv_at hl 0 rfl) ?_
  refine lv_iconst (v := nI 2) hx hb dX2_one_40 (by decide) ?_
  refine q_icmp_ne (tgt := 56) hx hb (show 2 < 2 ^ 31 by omega) (show 2 < 2 ^ 31 by omega) dX2_one_41 (by decide) (fun h41 => absurd h41 (by decide)) (fun _ => ?_)
  refine lv_aload_n hx hb dX2_one_44 rfl (lv_at hl 1 rfl) ?_
  refine rg_r3 hx hb hts hinX2 hown hK hP (hts (.fieldLink RX2 16 "FencedWordsModel" "flushed" "[Z") (List.mem_of_getElem? (i := 6) rfl)) dX2_one_45 ?_
  refine lv_aload_n hx hb dX2_one_48 rfl (lv_at hl 1 rfl) ?_
  refine rg_r11 hx hb hts hinX2 hown hK hP (hts (.fieldLink RX2 42 "FencedWordsModel" "on" "[I") (List.mem_of_getElem? (i := 4) rfl)) dX2_one_49 ?_
  refine lv_iload_n hx hb dX2_one_52 rfl (lv_at hl 2 rfl) ?_
  refine rl_on hx hb hK hP (show k < 64 by omega) dX2_one_53 ?_
  refine lv_iconst (v := nI 1) hx hb dX2_one_54 (by decide) ?_
  refine rt_fl (v := true) hx hb hK hP hD hS (show (r_on r k) < 4 by omega) dX2_one_55 (fun H locs hP hD hS => ?_)
  refine lv_iload_n hx hb dX2_one_56 rfl (lv_at hl 0 rfl) ?_
  refine lv_iconst (v := nI 3) hx hb dX2_one_57 (by decide) ?_
  refine q_icmp_eq (tgt := 72) hx hb (show 2 < 2 ^ 31 by omega) (show 3 < 2 ^ 31 by omega) dX2_one_58 (by decide) (fun h58 => absurd h58 (by decide)) (fun _ => ?_)
  refine lv_iload_n hx hb dX2_one_61 rfl (lv_at hl 0 rfl) ?_
  refine lv_iconst (v := nI 5) hx hb dX2_one_62 (by decide) ?_
  refine q_icmp_eq (tgt := 72) hx hb (show 2 < 2 ^ 31 by omega) (show 5 < 2 ^ 31 by omega) dX2_one_63 (by decide) (fun h63 => absurd h63 (by decide)) (fun _ => ?_)
  refine lv_iload_n hx hb dX2_one_66 rfl (lv_at hl 0 rfl) ?_
  refine lv_bipush (v := nI 7) hx hb dX2_one_67 (by decide) ?_
  refine q_icmp_ne (tgt := 76) hx hb (show 2 < 2 ^ 31 by omega) (show 7 < 2 ^ 31 by omega) dX2_one_69 (by decide) (fun _ => ?_) (fun h69 => absurd h69 (by decide))
  refine lv_iload_n hx hb dX2_one_76 rfl (lv_at hl 0 rfl) ?_
  refine lv_iconst (v := nI 4) hx hb dX2_one_77 (by decide) ?_
  refine q_icmp_ne (tgt := 93) hx hb (show 2 < 2 ^ 31 by omega) (show 4 < 2 ^ 31 by omega) dX2_one_78 (by decide) (fun _ => ?_) (fun h78 => absurd h78 (by decide))
  refine lv_iload_n hx hb dX2_one_93 rfl (lv_at hl 0 rfl) ?_
  refine lv_iconst (v := nI 5) hx hb dX2_one_94 (by decide) ?_
  refine q_icmp_ne (tgt := 110) hx hb (show 2 < 2 ^ 31 by omega) (show 5 < 2 ^ 31 by omega) dX2_one_95 (by decide) (fun _ => ?_) (fun h95 => absurd h95 (by decide))
  refine lv_iload_n hx hb dX2_one_110 rfl (lv_at hl 0 rfl) ?_
  refine lv_bipush (v := nI 6) hx hb dX2_one_111 (by decide) ?_
  refine q_icmp_ne (tgt := 121) hx hb (show 2 < 2 ^ 31 by omega) (show 6 < 2 ^ 31 by omega) dX2_one_113 (by decide) (fun _ => ?_) (fun h113 => absurd h113 (by decide))
  refine lv_iload_n hx hb dX2_one_121 rfl (lv_at hl 0 rfl) ?_
  refine lv_bipush (v := nI 7) hx hb dX2_one_122 (by decide) ?_
  refine q_icmp_ne (tgt := 132) hx hb (show 2 < 2 ^ 31 by omega) (show 7 < 2 ^ 31 by omega) dX2_one_124 (by decide) (fun _ => ?_) (fun h124 => absurd h124 (by decide))
  exact retGv hx hb hr hlocks hK hP hD hS dX2_one_132 rfl
set_option maxHeartbeats 400000 in
set_option maxRecDepth 100000 in
theorem mX2_one_3 (l : Launch) (y : Nat → ClassId) (t : va_W) (b : Nat → Nat) (r : RS) (k : Nat) (hk : k < 64) (hz : r_rc r ≤ 20) (hw : r_an r k = 3)  : MGv l yX2_one wsX2_one 1 22 [.ref (b 0), .int (nI k)] (tyA y) (wR b y r t) (wR b y (oneR 3 (r_on r k) (r_wi r k) r) t) := by
  refine MGv.of (cc := cX2_one) (maxL := 3) (by decide) rfl (Nat.le_of_ble_eq_true rfl) ?_
  intro D p e s m below meth c0 A ls hx hb hr hml hown hlocks hts hK hP hD hA hN hl hS
  have hl : lv_has ls 3 [(0, .ref (b 0)), (1, .int (nI k))] := hl
  have hinX2 : ∀ w ∈ u_ws RX2 TX2 19, w ∈ wsX2_one := in_X2_X2_one
  refine lv_aload_n hx hb dX2_one_0 rfl (lv_at hl 0 rfl) ?_
  refine rg_r10 hx hb hts hinX2 hown hK hP (hts (.fieldLink RX2 39 "FencedWordsModel" "act" "[I") (List.mem_of_getElem? (i := 1) rfl)) dX2_one_1 ?_
  refine lv_iload_n hx hb dX2_one_4 rfl (lv_at hl 1 rfl) ?_
  refine rl_an hx hb hK hP (show k < 64 by omega) dX2_one_5 ?_
  rw [hw]
  refine lv_istore_n (lv' := [(2, .int (nI 3)), (0, .ref (b 0)), (1, .int (nI k))]) hx hb dX2_one_6 rfl hl (by decide) rfl (fun ls hl => ?_)
  refine lv_aload_n hx hb dX2_one_7 rfl (lv_at hl 1 rfl) ?_
  refine lv_dup hx hb dX2_one_8 rfl ?_
  refine rg_me hx hb hts hinX2 hown hK hP (hts (.fieldLink RX2 55 "FencedWordsModel" "meter" "I") (List.mem_of_getElem? (i := 2) rfl)) dX2_one_9 ?_
  refine lv_iconst (v := nI 1) hx hb dX2_one_12 (by decide) ?_
  refine lv_iadd hx hb dX2_one_13 ?_
  refine rp_me (v := (r_me r) + (nI 1)) hx hb hts hinX2 hown hK hP hD hS (hts (.fieldLink RX2 55 "FencedWordsModel" "meter" "I") (List.mem_of_getElem? (i := 2) rfl)) dX2_one_14 (fun H locs hP hD hS => ?_)
  refine lv_iload_n hx hb dX2_one_17 rfl (lv_at hl 0 rfl) ?_
  refine lv_iconst (v := nI 1) hx hb dX2_one_18 (by decide) ?_
  refine q_icmp_ne (tgt := 39) hx hb (show 3 < 2 ^ 31 by omega) (show 1 < 2 ^ 31 by omega) dX2_one_19 (by decide) (fun _ => ?_) (fun h19 => absurd h19 (by decide))
  refine lv_iload_n hx hb dX2_one_39 rfl (lv_at hl 0 rfl) ?_
  refine lv_iconst (v := nI 2) hx hb dX2_one_40 (by decide) ?_
  refine q_icmp_ne (tgt := 56) hx hb (show 3 < 2 ^ 31 by omega) (show 2 < 2 ^ 31 by omega) dX2_one_41 (by decide) (fun _ => ?_) (fun h41 => absurd h41 (by decide))
  refine lv_iload_n hx hb dX2_one_56 rfl (lv_at hl 0 rfl) ?_
  refine lv_iconst (v := nI 3) hx hb dX2_one_57 (by decide) ?_
  refine q_icmp_eq (tgt := 72) hx hb (show 3 < 2 ^ 31 by omega) (show 3 < 2 ^ 31 by omega) dX2_one_58 (by decide) (fun _ => ?_) (fun h58 => absurd h58 (by decide))
  refine lv_aload_n hx hb dX2_one_72 rfl (lv_at hl 1 rfl) ?_
  refine callVv (rest := []) ⟨hx, hb, hml, hown, hts⟩ (mX2_fence l y t b (rs_me r ((r_me r) + (nI 1)))) (cwV 0 hts gX2_one_X2_fence rfl rfl rfl (by decide +kernel) ⟨Nat.le_of_ble_eq_true rfl, Nat.le_of_ble_eq_true rfl⟩) (va_recv hK hP (ci := 2) (q0 := 0) rfl rfl) hK hP hD hS hA hN rfl hl.1 rfl (Nat.le_of_ble_eq_true rfl) dX2_one_73 ⟨Nat.le_of_ble_eq_true rfl, Nat.le_of_ble_eq_true rfl⟩ (fun H locs hP hD hS => ?_)
  generalize hc1 : fenceR (rs_me r ((r_me r) + (nI 1))) = c1 at hP hD
  have hP : va_P D vwCl (wR b y c1 t) H := hP
  have hD : va_D A (wR b y c1 t) := hD
  have hrc : r_rc c1 = r_rc r := (by rw [← hc1]; rfl)
  refine lv_iload_n hx hb dX2_one_76 rfl (lv_at hl 0 rfl) ?_
  refine lv_iconst (v := nI 4) hx hb dX2_one_77 (by decide) ?_
  refine q_icmp_ne (tgt := 93) hx hb (show 3 < 2 ^ 31 by omega) (show 4 < 2 ^ 31 by omega) dX2_one_78 (by decide) (fun _ => ?_) (fun h78 => absurd h78 (by decide))
  refine lv_iload_n hx hb dX2_one_93 rfl (lv_at hl 0 rfl) ?_
  refine lv_iconst (v := nI 5) hx hb dX2_one_94 (by decide) ?_
  refine q_icmp_ne (tgt := 110) hx hb (show 3 < 2 ^ 31 by omega) (show 5 < 2 ^ 31 by omega) dX2_one_95 (by decide) (fun _ => ?_) (fun h95 => absurd h95 (by decide))
  refine lv_iload_n hx hb dX2_one_110 rfl (lv_at hl 0 rfl) ?_
  refine lv_bipush (v := nI 6) hx hb dX2_one_111 (by decide) ?_
  refine q_icmp_ne (tgt := 121) hx hb (show 3 < 2 ^ 31 by omega) (show 6 < 2 ^ 31 by omega) dX2_one_113 (by decide) (fun _ => ?_) (fun h113 => absurd h113 (by decide))
  refine lv_iload_n hx hb dX2_one_121 rfl (lv_at hl 0 rfl) ?_
  refine lv_bipush (v := nI 7) hx hb dX2_one_122 (by decide) ?_
  refine q_icmp_ne (tgt := 132) hx hb (show 3 < 2 ^ 31 by omega) (show 7 < 2 ^ 31 by omega) dX2_one_124 (by decide) (fun _ => ?_) (fun h124 => absurd h124 (by decide))
  exact retGv hx hb hr hlocks hK hP hD hS dX2_one_132 (by rw [← hc1]; rfl)
set_option maxHeartbeats 400000 in
set_option maxRecDepth 100000 in
theorem mX2_one_4 (l : Launch) (y : Nat → ClassId) (t : va_W) (b : Nat → Nat) (r : RS) (k : Nat) (hk : k < 64) (hz : r_rc r ≤ 20) (hw : r_an r k = 4) (h1 : 1 ≤ r_rc r) : MGv l yX2_one wsX2_one 1 22 [.ref (b 0), .int (nI k)] (tyA y) (wR b y r t) (wR b y (oneR 4 (r_on r k) (r_wi r k) r) t) := by
  refine MGv.of (cc := cX2_one) (maxL := 3) (by decide) rfl (Nat.le_of_ble_eq_true rfl) ?_
  intro D p e s m below meth c0 A ls hx hb hr hml hown hlocks hts hK hP hD hA hN hl hS
  have hl : lv_has ls 3 [(0, .ref (b 0)), (1, .int (nI k))] := hl
  have hinX2 : ∀ w ∈ u_ws RX2 TX2 19, w ∈ wsX2_one := in_X2_X2_one
  refine lv_aload_n hx hb dX2_one_0 rfl (lv_at hl 0 rfl) ?_
  refine rg_r10 hx hb hts hinX2 hown hK hP (hts (.fieldLink RX2 39 "FencedWordsModel" "act" "[I") (List.mem_of_getElem? (i := 1) rfl)) dX2_one_1 ?_
  refine lv_iload_n hx hb dX2_one_4 rfl (lv_at hl 1 rfl) ?_
  refine rl_an hx hb hK hP (show k < 64 by omega) dX2_one_5 ?_
  rw [hw]
  refine lv_istore_n (lv' := [(2, .int (nI 4)), (0, .ref (b 0)), (1, .int (nI k))]) hx hb dX2_one_6 rfl hl (by decide) rfl (fun ls hl => ?_)
  refine lv_aload_n hx hb dX2_one_7 rfl (lv_at hl 1 rfl) ?_
  refine lv_dup hx hb dX2_one_8 rfl ?_
  refine rg_me hx hb hts hinX2 hown hK hP (hts (.fieldLink RX2 55 "FencedWordsModel" "meter" "I") (List.mem_of_getElem? (i := 2) rfl)) dX2_one_9 ?_
  refine lv_iconst (v := nI 1) hx hb dX2_one_12 (by decide) ?_
  refine lv_iadd hx hb dX2_one_13 ?_
  refine rp_me (v := (r_me r) + (nI 1)) hx hb hts hinX2 hown hK hP hD hS (hts (.fieldLink RX2 55 "FencedWordsModel" "meter" "I") (List.mem_of_getElem? (i := 2) rfl)) dX2_one_14 (fun H locs hP hD hS => ?_)
  refine lv_iload_n hx hb dX2_one_17 rfl (lv_at hl 0 rfl) ?_
  refine lv_iconst (v := nI 1) hx hb dX2_one_18 (by decide) ?_
  refine q_icmp_ne (tgt := 39) hx hb (show 4 < 2 ^ 31 by omega) (show 1 < 2 ^ 31 by omega) dX2_one_19 (by decide) (fun _ => ?_) (fun h19 => absurd h19 (by decide))
  refine lv_iload_n hx hb dX2_one_39 rfl (lv_at hl 0 rfl) ?_
  refine lv_iconst (v := nI 2) hx hb dX2_one_40 (by decide) ?_
  refine q_icmp_ne (tgt := 56) hx hb (show 4 < 2 ^ 31 by omega) (show 2 < 2 ^ 31 by omega) dX2_one_41 (by decide) (fun _ => ?_) (fun h41 => absurd h41 (by decide))
  refine lv_iload_n hx hb dX2_one_56 rfl (lv_at hl 0 rfl) ?_
  refine lv_iconst (v := nI 3) hx hb dX2_one_57 (by decide) ?_
  refine q_icmp_eq (tgt := 72) hx hb (show 4 < 2 ^ 31 by omega) (show 3 < 2 ^ 31 by omega) dX2_one_58 (by decide) (fun h58 => absurd h58 (by decide)) (fun _ => ?_)
  refine lv_iload_n hx hb dX2_one_61 rfl (lv_at hl 0 rfl) ?_
  refine lv_iconst (v := nI 5) hx hb dX2_one_62 (by decide) ?_
  refine q_icmp_eq (tgt := 72) hx hb (show 4 < 2 ^ 31 by omega) (show 5 < 2 ^ 31 by omega) dX2_one_63 (by decide) (fun h63 => absurd h63 (by decide)) (fun _ => ?_)
  refine lv_iload_n hx hb dX2_one_66 rfl (lv_at hl 0 rfl) ?_
  refine lv_bipush (v := nI 7) hx hb dX2_one_67 (by decide) ?_
  refine q_icmp_ne (tgt := 76) hx hb (show 4 < 2 ^ 31 by omega) (show 7 < 2 ^ 31 by omega) dX2_one_69 (by decide) (fun _ => ?_) (fun h69 => absurd h69 (by decide))
  refine lv_iload_n hx hb dX2_one_76 rfl (lv_at hl 0 rfl) ?_
  refine lv_iconst (v := nI 4) hx hb dX2_one_77 (by decide) ?_
  refine q_icmp_ne (tgt := 93) hx hb (show 4 < 2 ^ 31 by omega) (show 4 < 2 ^ 31 by omega) dX2_one_78 (by decide) (fun h78 => absurd h78 (by decide)) (fun _ => ?_)
  refine lv_aload_n hx hb dX2_one_81 rfl (lv_at hl 1 rfl) ?_
  refine rg_r7 hx hb hts hinX2 hown hK hP (hts (.fieldLink RX2 30 "FencedWordsModel" "stands" "[I") (List.mem_of_getElem? (i := 7) rfl)) dX2_one_82 ?_
  refine lv_aload_n hx hb dX2_one_85 rfl (lv_at hl 1 rfl) ?_
  refine rg_rc hx hb hts hinX2 hown hK hP (hts (.fieldLink RX2 52 "FencedWordsModel" "records" "I") (List.mem_of_getElem? (i := 8) rfl)) dX2_one_86 ?_
  refine lv_iconst (v := nI 1) hx hb dX2_one_89 (by decide) ?_
  refine q_isub hx hb (show 1 ≤ (r_rc r) by omega) dX2_one_90 ?_
  refine lv_iconst (v := nI 1) hx hb dX2_one_91 (by decide) ?_
  refine rt_st (v := 1) hx hb hK hP hD hS (show ((r_rc r) - 1) < 20 by omega) dX2_one_92 (fun H locs hP hD hS => ?_)
  refine lv_iload_n hx hb dX2_one_93 rfl (lv_at hl 0 rfl) ?_
  refine lv_iconst (v := nI 5) hx hb dX2_one_94 (by decide) ?_
  refine q_icmp_ne (tgt := 110) hx hb (show 4 < 2 ^ 31 by omega) (show 5 < 2 ^ 31 by omega) dX2_one_95 (by decide) (fun _ => ?_) (fun h95 => absurd h95 (by decide))
  refine lv_iload_n hx hb dX2_one_110 rfl (lv_at hl 0 rfl) ?_
  refine lv_bipush (v := nI 6) hx hb dX2_one_111 (by decide) ?_
  refine q_icmp_ne (tgt := 121) hx hb (show 4 < 2 ^ 31 by omega) (show 6 < 2 ^ 31 by omega) dX2_one_113 (by decide) (fun _ => ?_) (fun h113 => absurd h113 (by decide))
  refine lv_iload_n hx hb dX2_one_121 rfl (lv_at hl 0 rfl) ?_
  refine lv_bipush (v := nI 7) hx hb dX2_one_122 (by decide) ?_
  refine q_icmp_ne (tgt := 132) hx hb (show 4 < 2 ^ 31 by omega) (show 7 < 2 ^ 31 by omega) dX2_one_124 (by decide) (fun _ => ?_) (fun h124 => absurd h124 (by decide))
  exact retGv hx hb hr hlocks hK hP hD hS dX2_one_132 rfl
set_option maxHeartbeats 400000 in
set_option maxRecDepth 100000 in
theorem mX2_one_5 (l : Launch) (y : Nat → ClassId) (t : va_W) (b : Nat → Nat) (r : RS) (k : Nat) (hk : k < 64) (hz : r_rc r ≤ 20) (hw : r_an r k = 5) (h1 : 1 ≤ r_rc r) : MGv l yX2_one wsX2_one 1 22 [.ref (b 0), .int (nI k)] (tyA y) (wR b y r t) (wR b y (oneR 5 (r_on r k) (r_wi r k) r) t) := by
  refine MGv.of (cc := cX2_one) (maxL := 3) (by decide) rfl (Nat.le_of_ble_eq_true rfl) ?_
  intro D p e s m below meth c0 A ls hx hb hr hml hown hlocks hts hK hP hD hA hN hl hS
  have hl : lv_has ls 3 [(0, .ref (b 0)), (1, .int (nI k))] := hl
  have hinX2 : ∀ w ∈ u_ws RX2 TX2 19, w ∈ wsX2_one := in_X2_X2_one
  refine lv_aload_n hx hb dX2_one_0 rfl (lv_at hl 0 rfl) ?_
  refine rg_r10 hx hb hts hinX2 hown hK hP (hts (.fieldLink RX2 39 "FencedWordsModel" "act" "[I") (List.mem_of_getElem? (i := 1) rfl)) dX2_one_1 ?_
  refine lv_iload_n hx hb dX2_one_4 rfl (lv_at hl 1 rfl) ?_
  refine rl_an hx hb hK hP (show k < 64 by omega) dX2_one_5 ?_
  rw [hw]
  refine lv_istore_n (lv' := [(2, .int (nI 5)), (0, .ref (b 0)), (1, .int (nI k))]) hx hb dX2_one_6 rfl hl (by decide) rfl (fun ls hl => ?_)
  refine lv_aload_n hx hb dX2_one_7 rfl (lv_at hl 1 rfl) ?_
  refine lv_dup hx hb dX2_one_8 rfl ?_
  refine rg_me hx hb hts hinX2 hown hK hP (hts (.fieldLink RX2 55 "FencedWordsModel" "meter" "I") (List.mem_of_getElem? (i := 2) rfl)) dX2_one_9 ?_
  refine lv_iconst (v := nI 1) hx hb dX2_one_12 (by decide) ?_
  refine lv_iadd hx hb dX2_one_13 ?_
  refine rp_me (v := (r_me r) + (nI 1)) hx hb hts hinX2 hown hK hP hD hS (hts (.fieldLink RX2 55 "FencedWordsModel" "meter" "I") (List.mem_of_getElem? (i := 2) rfl)) dX2_one_14 (fun H locs hP hD hS => ?_)
  refine lv_iload_n hx hb dX2_one_17 rfl (lv_at hl 0 rfl) ?_
  refine lv_iconst (v := nI 1) hx hb dX2_one_18 (by decide) ?_
  refine q_icmp_ne (tgt := 39) hx hb (show 5 < 2 ^ 31 by omega) (show 1 < 2 ^ 31 by omega) dX2_one_19 (by decide) (fun _ => ?_) (fun h19 => absurd h19 (by decide))
  refine lv_iload_n hx hb dX2_one_39 rfl (lv_at hl 0 rfl) ?_
  refine lv_iconst (v := nI 2) hx hb dX2_one_40 (by decide) ?_
  refine q_icmp_ne (tgt := 56) hx hb (show 5 < 2 ^ 31 by omega) (show 2 < 2 ^ 31 by omega) dX2_one_41 (by decide) (fun _ => ?_) (fun h41 => absurd h41 (by decide))
  refine lv_iload_n hx hb dX2_one_56 rfl (lv_at hl 0 rfl) ?_
  refine lv_iconst (v := nI 3) hx hb dX2_one_57 (by decide) ?_
  refine q_icmp_eq (tgt := 72) hx hb (show 5 < 2 ^ 31 by omega) (show 3 < 2 ^ 31 by omega) dX2_one_58 (by decide) (fun h58 => absurd h58 (by decide)) (fun _ => ?_)
  refine lv_iload_n hx hb dX2_one_61 rfl (lv_at hl 0 rfl) ?_
  refine lv_iconst (v := nI 5) hx hb dX2_one_62 (by decide) ?_
  refine q_icmp_eq (tgt := 72) hx hb (show 5 < 2 ^ 31 by omega) (show 5 < 2 ^ 31 by omega) dX2_one_63 (by decide) (fun _ => ?_) (fun h63 => absurd h63 (by decide))
  refine lv_aload_n hx hb dX2_one_72 rfl (lv_at hl 1 rfl) ?_
  refine callVv (rest := []) ⟨hx, hb, hml, hown, hts⟩ (mX2_fence l y t b (rs_me r ((r_me r) + (nI 1)))) (cwV 0 hts gX2_one_X2_fence rfl rfl rfl (by decide +kernel) ⟨Nat.le_of_ble_eq_true rfl, Nat.le_of_ble_eq_true rfl⟩) (va_recv hK hP (ci := 2) (q0 := 0) rfl rfl) hK hP hD hS hA hN rfl hl.1 rfl (Nat.le_of_ble_eq_true rfl) dX2_one_73 ⟨Nat.le_of_ble_eq_true rfl, Nat.le_of_ble_eq_true rfl⟩ (fun H locs hP hD hS => ?_)
  generalize hc1 : fenceR (rs_me r ((r_me r) + (nI 1))) = c1 at hP hD
  have hP : va_P D vwCl (wR b y c1 t) H := hP
  have hD : va_D A (wR b y c1 t) := hD
  have hrc : r_rc c1 = r_rc r := (by rw [← hc1]; rfl)
  refine lv_iload_n hx hb dX2_one_76 rfl (lv_at hl 0 rfl) ?_
  refine lv_iconst (v := nI 4) hx hb dX2_one_77 (by decide) ?_
  refine q_icmp_ne (tgt := 93) hx hb (show 5 < 2 ^ 31 by omega) (show 4 < 2 ^ 31 by omega) dX2_one_78 (by decide) (fun _ => ?_) (fun h78 => absurd h78 (by decide))
  refine lv_iload_n hx hb dX2_one_93 rfl (lv_at hl 0 rfl) ?_
  refine lv_iconst (v := nI 5) hx hb dX2_one_94 (by decide) ?_
  refine q_icmp_ne (tgt := 110) hx hb (show 5 < 2 ^ 31 by omega) (show 5 < 2 ^ 31 by omega) dX2_one_95 (by decide) (fun h95 => absurd h95 (by decide)) (fun _ => ?_)
  refine lv_aload_n hx hb dX2_one_98 rfl (lv_at hl 1 rfl) ?_
  refine rg_r7 hx hb hts hinX2 hown hK hP (hts (.fieldLink RX2 30 "FencedWordsModel" "stands" "[I") (List.mem_of_getElem? (i := 7) rfl)) dX2_one_99 ?_
  refine lv_aload_n hx hb dX2_one_102 rfl (lv_at hl 1 rfl) ?_
  refine rg_rc hx hb hts hinX2 hown hK hP (hts (.fieldLink RX2 52 "FencedWordsModel" "records" "I") (List.mem_of_getElem? (i := 8) rfl)) dX2_one_103 ?_
  refine lv_iconst (v := nI 1) hx hb dX2_one_106 (by decide) ?_
  refine q_isub hx hb (show 1 ≤ (r_rc c1) by omega) dX2_one_107 ?_
  refine lv_iconst (v := nI 2) hx hb dX2_one_108 (by decide) ?_
  refine rt_st (v := 2) hx hb hK hP hD hS (show ((r_rc c1) - 1) < 20 by omega) dX2_one_109 (fun H locs hP hD hS => ?_)
  refine lv_iload_n hx hb dX2_one_110 rfl (lv_at hl 0 rfl) ?_
  refine lv_bipush (v := nI 6) hx hb dX2_one_111 (by decide) ?_
  refine q_icmp_ne (tgt := 121) hx hb (show 5 < 2 ^ 31 by omega) (show 6 < 2 ^ 31 by omega) dX2_one_113 (by decide) (fun _ => ?_) (fun h113 => absurd h113 (by decide))
  refine lv_iload_n hx hb dX2_one_121 rfl (lv_at hl 0 rfl) ?_
  refine lv_bipush (v := nI 7) hx hb dX2_one_122 (by decide) ?_
  refine q_icmp_ne (tgt := 132) hx hb (show 5 < 2 ^ 31 by omega) (show 7 < 2 ^ 31 by omega) dX2_one_124 (by decide) (fun _ => ?_) (fun h124 => absurd h124 (by decide))
  exact retGv hx hb hr hlocks hK hP hD hS dX2_one_132 (by rw [← hc1]; rfl)
set_option maxHeartbeats 400000 in
set_option maxRecDepth 100000 in
theorem mX2_one_6 (l : Launch) (y : Nat → ClassId) (t : va_W) (b : Nat → Nat) (r : RS) (k : Nat) (hk : k < 64) (hz : r_rc r ≤ 20) (hw : r_an r k = 6)  : MGv l yX2_one wsX2_one 1 22 [.ref (b 0), .int (nI k)] (tyA y) (wR b y r t) (wR b y (oneR 6 (r_on r k) (r_wi r k) r) t) := by
  refine MGv.of (cc := cX2_one) (maxL := 3) (by decide) rfl (Nat.le_of_ble_eq_true rfl) ?_
  intro D p e s m below meth c0 A ls hx hb hr hml hown hlocks hts hK hP hD hA hN hl hS
  have hl : lv_has ls 3 [(0, .ref (b 0)), (1, .int (nI k))] := hl
  have hinX2 : ∀ w ∈ u_ws RX2 TX2 19, w ∈ wsX2_one := in_X2_X2_one
  refine lv_aload_n hx hb dX2_one_0 rfl (lv_at hl 0 rfl) ?_
  refine rg_r10 hx hb hts hinX2 hown hK hP (hts (.fieldLink RX2 39 "FencedWordsModel" "act" "[I") (List.mem_of_getElem? (i := 1) rfl)) dX2_one_1 ?_
  refine lv_iload_n hx hb dX2_one_4 rfl (lv_at hl 1 rfl) ?_
  refine rl_an hx hb hK hP (show k < 64 by omega) dX2_one_5 ?_
  rw [hw]
  refine lv_istore_n (lv' := [(2, .int (nI 6)), (0, .ref (b 0)), (1, .int (nI k))]) hx hb dX2_one_6 rfl hl (by decide) rfl (fun ls hl => ?_)
  refine lv_aload_n hx hb dX2_one_7 rfl (lv_at hl 1 rfl) ?_
  refine lv_dup hx hb dX2_one_8 rfl ?_
  refine rg_me hx hb hts hinX2 hown hK hP (hts (.fieldLink RX2 55 "FencedWordsModel" "meter" "I") (List.mem_of_getElem? (i := 2) rfl)) dX2_one_9 ?_
  refine lv_iconst (v := nI 1) hx hb dX2_one_12 (by decide) ?_
  refine lv_iadd hx hb dX2_one_13 ?_
  refine rp_me (v := (r_me r) + (nI 1)) hx hb hts hinX2 hown hK hP hD hS (hts (.fieldLink RX2 55 "FencedWordsModel" "meter" "I") (List.mem_of_getElem? (i := 2) rfl)) dX2_one_14 (fun H locs hP hD hS => ?_)
  refine lv_iload_n hx hb dX2_one_17 rfl (lv_at hl 0 rfl) ?_
  refine lv_iconst (v := nI 1) hx hb dX2_one_18 (by decide) ?_
  refine q_icmp_ne (tgt := 39) hx hb (show 6 < 2 ^ 31 by omega) (show 1 < 2 ^ 31 by omega) dX2_one_19 (by decide) (fun _ => ?_) (fun h19 => absurd h19 (by decide))
  refine lv_iload_n hx hb dX2_one_39 rfl (lv_at hl 0 rfl) ?_
  refine lv_iconst (v := nI 2) hx hb dX2_one_40 (by decide) ?_
  refine q_icmp_ne (tgt := 56) hx hb (show 6 < 2 ^ 31 by omega) (show 2 < 2 ^ 31 by omega) dX2_one_41 (by decide) (fun _ => ?_) (fun h41 => absurd h41 (by decide))
  refine lv_iload_n hx hb dX2_one_56 rfl (lv_at hl 0 rfl) ?_
  refine lv_iconst (v := nI 3) hx hb dX2_one_57 (by decide) ?_
  refine q_icmp_eq (tgt := 72) hx hb (show 6 < 2 ^ 31 by omega) (show 3 < 2 ^ 31 by omega) dX2_one_58 (by decide) (fun h58 => absurd h58 (by decide)) (fun _ => ?_)
  refine lv_iload_n hx hb dX2_one_61 rfl (lv_at hl 0 rfl) ?_
  refine lv_iconst (v := nI 5) hx hb dX2_one_62 (by decide) ?_
  refine q_icmp_eq (tgt := 72) hx hb (show 6 < 2 ^ 31 by omega) (show 5 < 2 ^ 31 by omega) dX2_one_63 (by decide) (fun h63 => absurd h63 (by decide)) (fun _ => ?_)
  refine lv_iload_n hx hb dX2_one_66 rfl (lv_at hl 0 rfl) ?_
  refine lv_bipush (v := nI 7) hx hb dX2_one_67 (by decide) ?_
  refine q_icmp_ne (tgt := 76) hx hb (show 6 < 2 ^ 31 by omega) (show 7 < 2 ^ 31 by omega) dX2_one_69 (by decide) (fun _ => ?_) (fun h69 => absurd h69 (by decide))
  refine lv_iload_n hx hb dX2_one_76 rfl (lv_at hl 0 rfl) ?_
  refine lv_iconst (v := nI 4) hx hb dX2_one_77 (by decide) ?_
  refine q_icmp_ne (tgt := 93) hx hb (show 6 < 2 ^ 31 by omega) (show 4 < 2 ^ 31 by omega) dX2_one_78 (by decide) (fun _ => ?_) (fun h78 => absurd h78 (by decide))
  refine lv_iload_n hx hb dX2_one_93 rfl (lv_at hl 0 rfl) ?_
  refine lv_iconst (v := nI 5) hx hb dX2_one_94 (by decide) ?_
  refine q_icmp_ne (tgt := 110) hx hb (show 6 < 2 ^ 31 by omega) (show 5 < 2 ^ 31 by omega) dX2_one_95 (by decide) (fun _ => ?_) (fun h95 => absurd h95 (by decide))
  refine lv_iload_n hx hb dX2_one_110 rfl (lv_at hl 0 rfl) ?_
  refine lv_bipush (v := nI 6) hx hb dX2_one_111 (by decide) ?_
  refine q_icmp_ne (tgt := 121) hx hb (show 6 < 2 ^ 31 by omega) (show 6 < 2 ^ 31 by omega) dX2_one_113 (by decide) (fun h113 => absurd h113 (by decide)) (fun _ => ?_)
  refine lv_aload_n hx hb dX2_one_116 rfl (lv_at hl 1 rfl) ?_
  refine lv_iconst (v := nI 3) hx hb dX2_one_117 (by decide) ?_
  refine callVv (rest := []) ⟨hx, hb, hml, hown, hts⟩ (mX2_stand l y t b (rs_me r ((r_me r) + (nI 1))) 3 hz) (cwV 1 hts gX2_one_X2_stand rfl rfl rfl (by decide +kernel) ⟨Nat.le_of_ble_eq_true rfl, Nat.le_of_ble_eq_true rfl⟩) (va_recv hK hP (ci := 2) (q0 := 0) rfl rfl) hK hP hD hS hA hN rfl hl.1 rfl (Nat.le_of_ble_eq_true rfl) dX2_one_118 ⟨Nat.le_of_ble_eq_true rfl, Nat.le_of_ble_eq_true rfl⟩ (fun H locs hP hD hS => ?_)
  generalize hc1 : standR 3 (rs_me r ((r_me r) + (nI 1))) = c1 at hP hD
  have hP : va_P D vwCl (wR b y c1 t) H := hP
  have hD : va_D A (wR b y c1 t) := hD
  refine lv_iload_n hx hb dX2_one_121 rfl (lv_at hl 0 rfl) ?_
  refine lv_bipush (v := nI 7) hx hb dX2_one_122 (by decide) ?_
  refine q_icmp_ne (tgt := 132) hx hb (show 6 < 2 ^ 31 by omega) (show 7 < 2 ^ 31 by omega) dX2_one_124 (by decide) (fun _ => ?_) (fun h124 => absurd h124 (by decide))
  exact retGv hx hb hr hlocks hK hP hD hS dX2_one_132 (by rw [← hc1]; rfl)
set_option maxHeartbeats 400000 in
set_option maxRecDepth 100000 in
theorem mX2_one_7 (l : Launch) (y : Nat → ClassId) (t : va_W) (b : Nat → Nat) (r : RS) (k : Nat) (hk : k < 64) (hz : r_rc r ≤ 20) (hw : r_an r k = 7)  : MGv l yX2_one wsX2_one 1 22 [.ref (b 0), .int (nI k)] (tyA y) (wR b y r t) (wR b y (oneR 7 (r_on r k) (r_wi r k) r) t) := by
  refine MGv.of (cc := cX2_one) (maxL := 3) (by decide) rfl (Nat.le_of_ble_eq_true rfl) ?_
  intro D p e s m below meth c0 A ls hx hb hr hml hown hlocks hts hK hP hD hA hN hl hS
  have hl : lv_has ls 3 [(0, .ref (b 0)), (1, .int (nI k))] := hl
  have hinX2 : ∀ w ∈ u_ws RX2 TX2 19, w ∈ wsX2_one := in_X2_X2_one
  refine lv_aload_n hx hb dX2_one_0 rfl (lv_at hl 0 rfl) ?_
  refine rg_r10 hx hb hts hinX2 hown hK hP (hts (.fieldLink RX2 39 "FencedWordsModel" "act" "[I") (List.mem_of_getElem? (i := 1) rfl)) dX2_one_1 ?_
  refine lv_iload_n hx hb dX2_one_4 rfl (lv_at hl 1 rfl) ?_
  refine rl_an hx hb hK hP (show k < 64 by omega) dX2_one_5 ?_
  rw [hw]
  refine lv_istore_n (lv' := [(2, .int (nI 7)), (0, .ref (b 0)), (1, .int (nI k))]) hx hb dX2_one_6 rfl hl (by decide) rfl (fun ls hl => ?_)
  refine lv_aload_n hx hb dX2_one_7 rfl (lv_at hl 1 rfl) ?_
  refine lv_dup hx hb dX2_one_8 rfl ?_
  refine rg_me hx hb hts hinX2 hown hK hP (hts (.fieldLink RX2 55 "FencedWordsModel" "meter" "I") (List.mem_of_getElem? (i := 2) rfl)) dX2_one_9 ?_
  refine lv_iconst (v := nI 1) hx hb dX2_one_12 (by decide) ?_
  refine lv_iadd hx hb dX2_one_13 ?_
  refine rp_me (v := (r_me r) + (nI 1)) hx hb hts hinX2 hown hK hP hD hS (hts (.fieldLink RX2 55 "FencedWordsModel" "meter" "I") (List.mem_of_getElem? (i := 2) rfl)) dX2_one_14 (fun H locs hP hD hS => ?_)
  refine lv_iload_n hx hb dX2_one_17 rfl (lv_at hl 0 rfl) ?_
  refine lv_iconst (v := nI 1) hx hb dX2_one_18 (by decide) ?_
  refine q_icmp_ne (tgt := 39) hx hb (show 7 < 2 ^ 31 by omega) (show 1 < 2 ^ 31 by omega) dX2_one_19 (by decide) (fun _ => ?_) (fun h19 => absurd h19 (by decide))
  refine lv_iload_n hx hb dX2_one_39 rfl (lv_at hl 0 rfl) ?_
  refine lv_iconst (v := nI 2) hx hb dX2_one_40 (by decide) ?_
  refine q_icmp_ne (tgt := 56) hx hb (show 7 < 2 ^ 31 by omega) (show 2 < 2 ^ 31 by omega) dX2_one_41 (by decide) (fun _ => ?_) (fun h41 => absurd h41 (by decide))
  refine lv_iload_n hx hb dX2_one_56 rfl (lv_at hl 0 rfl) ?_
  refine lv_iconst (v := nI 3) hx hb dX2_one_57 (by decide) ?_
  refine q_icmp_eq (tgt := 72) hx hb (show 7 < 2 ^ 31 by omega) (show 3 < 2 ^ 31 by omega) dX2_one_58 (by decide) (fun h58 => absurd h58 (by decide)) (fun _ => ?_)
  refine lv_iload_n hx hb dX2_one_61 rfl (lv_at hl 0 rfl) ?_
  refine lv_iconst (v := nI 5) hx hb dX2_one_62 (by decide) ?_
  refine q_icmp_eq (tgt := 72) hx hb (show 7 < 2 ^ 31 by omega) (show 5 < 2 ^ 31 by omega) dX2_one_63 (by decide) (fun h63 => absurd h63 (by decide)) (fun _ => ?_)
  refine lv_iload_n hx hb dX2_one_66 rfl (lv_at hl 0 rfl) ?_
  refine lv_bipush (v := nI 7) hx hb dX2_one_67 (by decide) ?_
  refine q_icmp_ne (tgt := 76) hx hb (show 7 < 2 ^ 31 by omega) (show 7 < 2 ^ 31 by omega) dX2_one_69 (by decide) (fun h69 => absurd h69 (by decide)) (fun _ => ?_)
  refine lv_aload_n hx hb dX2_one_72 rfl (lv_at hl 1 rfl) ?_
  refine callVv (rest := []) ⟨hx, hb, hml, hown, hts⟩ (mX2_fence l y t b (rs_me r ((r_me r) + (nI 1)))) (cwV 0 hts gX2_one_X2_fence rfl rfl rfl (by decide +kernel) ⟨Nat.le_of_ble_eq_true rfl, Nat.le_of_ble_eq_true rfl⟩) (va_recv hK hP (ci := 2) (q0 := 0) rfl rfl) hK hP hD hS hA hN rfl hl.1 rfl (Nat.le_of_ble_eq_true rfl) dX2_one_73 ⟨Nat.le_of_ble_eq_true rfl, Nat.le_of_ble_eq_true rfl⟩ (fun H locs hP hD hS => ?_)
  generalize hc1 : fenceR (rs_me r ((r_me r) + (nI 1))) = c1 at hP hD
  have hP : va_P D vwCl (wR b y c1 t) H := hP
  have hD : va_D A (wR b y c1 t) := hD
  have hrc : r_rc c1 = r_rc r := (by rw [← hc1]; rfl)
  refine lv_iload_n hx hb dX2_one_76 rfl (lv_at hl 0 rfl) ?_
  refine lv_iconst (v := nI 4) hx hb dX2_one_77 (by decide) ?_
  refine q_icmp_ne (tgt := 93) hx hb (show 7 < 2 ^ 31 by omega) (show 4 < 2 ^ 31 by omega) dX2_one_78 (by decide) (fun _ => ?_) (fun h78 => absurd h78 (by decide))
  refine lv_iload_n hx hb dX2_one_93 rfl (lv_at hl 0 rfl) ?_
  refine lv_iconst (v := nI 5) hx hb dX2_one_94 (by decide) ?_
  refine q_icmp_ne (tgt := 110) hx hb (show 7 < 2 ^ 31 by omega) (show 5 < 2 ^ 31 by omega) dX2_one_95 (by decide) (fun _ => ?_) (fun h95 => absurd h95 (by decide))
  refine lv_iload_n hx hb dX2_one_110 rfl (lv_at hl 0 rfl) ?_
  refine lv_bipush (v := nI 6) hx hb dX2_one_111 (by decide) ?_
  refine q_icmp_ne (tgt := 121) hx hb (show 7 < 2 ^ 31 by omega) (show 6 < 2 ^ 31 by omega) dX2_one_113 (by decide) (fun _ => ?_) (fun h113 => absurd h113 (by decide))
  refine lv_iload_n hx hb dX2_one_121 rfl (lv_at hl 0 rfl) ?_
  refine lv_bipush (v := nI 7) hx hb dX2_one_122 (by decide) ?_
  refine q_icmp_ne (tgt := 132) hx hb (show 7 < 2 ^ 31 by omega) (show 7 < 2 ^ 31 by omega) dX2_one_124 (by decide) (fun h124 => absurd h124 (by decide)) (fun _ => ?_)
  refine lv_aload_n hx hb dX2_one_127 rfl (lv_at hl 1 rfl) ?_
  refine lv_iconst (v := nI 0) hx hb dX2_one_128 (by decide) ?_
  refine rp_rc (v := 0) hx hb hts hinX2 hown hK hP hD hS (hts (.fieldLink RX2 52 "FencedWordsModel" "records" "I") (List.mem_of_getElem? (i := 8) rfl)) dX2_one_129 (fun H locs hP hD hS => ?_)
  exact retGv hx hb hr hlocks hK hP hD hS dX2_one_132 (by rw [← hc1]; rfl)
theorem mX2_one (l : Launch) (y : Nat → ClassId) (t : va_W) (b : Nat → Nat) (r : RS) (k : Nat) (hk : k < 64) (hz : r_rc r ≤ 20) (hw : r_an r k ≤ 7) (h1 : r_an r k = 1 → r_on r k < 32) (h2 : r_an r k = 2 → r_on r k < 4) (h45 : r_an r k = 4 ∨ r_an r k = 5 → 1 ≤ r_rc r) : MGv l yX2_one wsX2_one 1 22 [.ref (b 0), .int (nI k)] (tyA y) (wR b y r t) (wR b y (oneR (r_an r k) (r_on r k) (r_wi r k) r) t) := by
  have h : r_an r k = 0 ∨ r_an r k = 1 ∨ r_an r k = 2 ∨ r_an r k = 3 ∨ r_an r k = 4 ∨ r_an r k = 5 ∨ r_an r k = 6 ∨ r_an r k = 7 := by omega
  rcases h with h | h | h | h | h | h | h | h
  · rw [h]; exact mX2_one_0 l y t b r k hk hz h
  · rw [h]; exact mX2_one_1 l y t b r k hk hz h (h1 h)
  · rw [h]; exact mX2_one_2 l y t b r k hk hz h (h2 h)
  · rw [h]; exact mX2_one_3 l y t b r k hk hz h
  · rw [h]; exact mX2_one_4 l y t b r k hk hz h (h45 (Or.inl h))
  · rw [h]; exact mX2_one_5 l y t b r k hk hz h (h45 (Or.inr h))
  · rw [h]; exact mX2_one_6 l y t b r k hk hz h
  · rw [h]; exact mX2_one_7 l y t b r k hk hz h
