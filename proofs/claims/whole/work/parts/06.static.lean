set_option maxHeartbeats 400000 in
set_option maxRecDepth 100000 in
theorem mX1_isWord (l : Launch) (y : Nat → ClassId) (t : va_W) (x : Int32)  : MGi l yX1_isWord wsX1_isWord 0 0 [.int x] (tyA y) t (bI (isW x)) t := by
  refine MGi.of (cc := cX1_isWord) (maxL := 1) (by decide) rfl (Nat.le_of_ble_eq_true rfl) ?_
  intro D p e s m below meth c0 A ls hx hb hr hml hown hlocks hts hK hP hD hA hN hl hS
  have hl : lv_has ls 1 [(0, .int x)] := hl
  refine lv_iload_n hx hb dX1_isWord_0 rfl (lv_at hl 0 rfl) ?_
  refine lv_if_lt (tgt := 14) hx hb dX1_isWord_1 (by decide) (fun (h1 : x < 0) => ?_) (fun (h1 : ¬ x < 0) => ?_)
  · refine lv_iconst (v := nI 0) hx hb dX1_isWord_14 (by decide) ?_
    exact retGz hx hb hr hlocks hK hP hD hS dX1_isWord_15 (by simp [isW, bI, h1] <;> rfl) rfl
  · refine lv_iload_n hx hb dX1_isWord_4 rfl (lv_at hl 0 rfl) ?_
    refine lv_bipush (v := nI 32) hx hb dX1_isWord_5 (by decide) ?_
    refine lv_icmp_ge (tgt := 14) hx hb dX1_isWord_7 (by decide) (fun (h7 : (nI 32) ≤ x) => ?_) (fun (h7 : ¬ (nI 32) ≤ x) => ?_)
    · refine lv_iconst (v := nI 0) hx hb dX1_isWord_14 (by decide) ?_
      exact retGz hx hb hr hlocks hK hP hD hS dX1_isWord_15 (by simp [isW, bI, h1, h7] <;> rfl) rfl
    · refine lv_iconst (v := nI 1) hx hb dX1_isWord_10 (by decide) ?_
      refine lv_goto (tgt := 15) hx hb dX1_isWord_11 (by decide) ?_
      exact retGz hx hb hr hlocks hK hP hD hS dX1_isWord_15 (by simp [isW, bI, h1, h7] <;> rfl) rfl
set_option maxHeartbeats 400000 in
set_option maxRecDepth 100000 in
theorem mX1_areWords (l : Launch) (y : Nat → ClassId) (t : va_W) (x n : Int32)  : MGi l yX1_areWords wsX1_areWords 0 0 [.int x, .int n] (tyA y) t (bI (areW x n)) t := by
  refine MGi.of (cc := cX1_areWords) (maxL := 2) (by decide) rfl (Nat.le_of_ble_eq_true rfl) ?_
  intro D p e s m below meth c0 A ls hx hb hr hml hown hlocks hts hK hP hD hA hN hl hS
  have hl : lv_has ls 2 [(0, .int x), (1, .int n)] := hl
  refine lv_iload_n hx hb dX1_areWords_0 rfl (lv_at hl 1 rfl) ?_
  refine lv_iconst (v := nI 1) hx hb dX1_areWords_1 (by decide) ?_
  refine lv_icmp_lt (tgt := 27) hx hb dX1_areWords_2 (by decide) (fun (h2 : n < (nI 1)) => ?_) (fun (h2 : ¬ n < (nI 1)) => ?_)
  · refine lv_iconst (v := nI 0) hx hb dX1_areWords_27 (by decide) ?_
    exact retGz hx hb hr hlocks hK hP hD hS dX1_areWords_28 (by simp [areW, bI, h2] <;> rfl) rfl
  · refine lv_iload_n hx hb dX1_areWords_5 rfl (lv_at hl 1 rfl) ?_
    refine lv_bipush (v := nI 8) hx hb dX1_areWords_6 (by decide) ?_
    refine lv_icmp_gt (tgt := 27) hx hb dX1_areWords_8 (by decide) (fun (h8 : (nI 8) < n) => ?_) (fun (h8 : ¬ (nI 8) < n) => ?_)
    · refine lv_iconst (v := nI 0) hx hb dX1_areWords_27 (by decide) ?_
      exact retGz hx hb hr hlocks hK hP hD hS dX1_areWords_28 (by simp [areW, bI, h2, h8] <;> rfl) rfl
    · refine lv_iload_n hx hb dX1_areWords_11 rfl (lv_at hl 0 rfl) ?_
      refine lv_if_lt (tgt := 27) hx hb dX1_areWords_12 (by decide) (fun (h12 : x < 0) => ?_) (fun (h12 : ¬ x < 0) => ?_)
      · refine lv_iconst (v := nI 0) hx hb dX1_areWords_27 (by decide) ?_
        exact retGz hx hb hr hlocks hK hP hD hS dX1_areWords_28 (by simp [areW, bI, h2, h8, h12] <;> rfl) rfl
      · refine lv_iload_n hx hb dX1_areWords_15 rfl (lv_at hl 0 rfl) ?_
        refine lv_bipush (v := nI 32) hx hb dX1_areWords_16 (by decide) ?_
        refine lv_iload_n hx hb dX1_areWords_18 rfl (lv_at hl 1 rfl) ?_
        refine lv_isub hx hb dX1_areWords_19 ?_
        refine lv_icmp_gt (tgt := 27) hx hb dX1_areWords_20 (by decide) (fun (h20 : ((nI 32) - n) < x) => ?_) (fun (h20 : ¬ ((nI 32) - n) < x) => ?_)
        · refine lv_iconst (v := nI 0) hx hb dX1_areWords_27 (by decide) ?_
          exact retGz hx hb hr hlocks hK hP hD hS dX1_areWords_28 (by simp [areW, bI, h2, h8, h12, h20] <;> rfl) rfl
        · refine lv_iconst (v := nI 1) hx hb dX1_areWords_23 (by decide) ?_
          refine lv_goto (tgt := 28) hx hb dX1_areWords_24 (by decide) ?_
          exact retGz hx hb hr hlocks hK hP hD hS dX1_areWords_28 (by simp [areW, bI, h2, h8, h12, h20] <;> rfl) rfl
set_option maxHeartbeats 400000 in
set_option maxRecDepth 100000 in
theorem mX1_lineOf (l : Launch) (y : Nat → ClassId) (t : va_W) (k : Nat) (hk : k < 2 ^ 31) : MGi l yX1_lineOf wsX1_lineOf 0 0 [.int (nI k)] (tyA y) t (nI (k / 8)) t := by
  refine MGi.of (cc := cX1_lineOf) (maxL := 1) (by decide) rfl (Nat.le_of_ble_eq_true rfl) ?_
  intro D p e s m below meth c0 A ls hx hb hr hml hown hlocks hts hK hP hD hA hN hl hS
  have hl : lv_has ls 1 [(0, .int (nI k))] := hl
  refine lv_iload_n hx hb dX1_lineOf_0 rfl (lv_at hl 0 rfl) ?_
  refine lv_bipush (v := nI 8) hx hb dX1_lineOf_1 (by decide) ?_
  refine q_idiv hx hb (show k < 2 ^ 31 by omega) (show 0 < 8 by omega) (show 8 < 2 ^ 31 by omega) dX1_lineOf_3 ?_
  exact retGi hx hb hr hlocks hK hP hD hS dX1_lineOf_4 rfl rfl
set_option maxHeartbeats 400000 in
set_option maxRecDepth 100000 in
theorem mX1_hasBit (l : Launch) (y : Nat → ClassId) (t : va_W) (x : Int64) (k : Nat) (hk : k < 64) : MGi l yX1_hasBit wsX1_hasBit 0 0 [.long x, .int (nI k)] (tyA y) t (bI (hbL x k)) t := by
  refine MGi.of (cc := cX1_hasBit) (maxL := 3) (by decide) rfl (Nat.le_of_ble_eq_true rfl) ?_
  intro D p e s m below meth c0 A ls hx hb hr hml hown hlocks hts hK hP hD hA hN hl hS
  have hl : lv_has ls 3 [(0, .long x), (2, .int (nI k))] := hl
  refine lv_lload_n hx hb dX1_hasBit_0 rfl (lv_at hl 0 rfl) ?_
  refine lv_iload_n hx hb dX1_hasBit_1 rfl (lv_at hl 1 rfl) ?_
  refine lv_lushr hx hb dX1_hasBit_2 rfl ?_
  refine lv_lconst (v := 1) hx hb dX1_hasBit_3 (by decide) ?_
  refine lv_land hx hb dX1_hasBit_4 ?_
  refine lv_lconst (v := 0) hx hb dX1_hasBit_5 (by decide) ?_
  refine W.lcmp hx hb dX1_hasBit_6 ?_
  refine lv_if_eq (tgt := 14) hx hb dX1_hasBit_7 (by decide) (fun (h7 : (lg_cmp (((x.toUInt64 >>> ((nI k).toInt64.toUInt64 &&& Int64.toUInt64 63)).toInt64) &&& 1) 0) = 0) => ?_) (fun (h7 : ¬ (lg_cmp (((x.toUInt64 >>> ((nI k).toInt64.toUInt64 &&& Int64.toUInt64 63)).toInt64) &&& 1) 0) = 0) => ?_)
  · refine lv_iconst (v := nI 0) hx hb dX1_hasBit_14 (by decide) ?_
    exact retGz hx hb hr hlocks hK hP hD hS dX1_hasBit_15 (by have q := hb_cmp x hk; simp [h7] at q; simp [q, bI] <;> rfl) rfl
  · refine lv_iconst (v := nI 1) hx hb dX1_hasBit_10 (by decide) ?_
    refine lv_goto (tgt := 15) hx hb dX1_hasBit_11 (by decide) ?_
    exact retGz hx hb hr hlocks hK hP hD hS dX1_hasBit_15 (by have q := hb_cmp x hk; simp [h7] at q; simp [q, bI] <;> rfl) rfl
