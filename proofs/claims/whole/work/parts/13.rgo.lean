theorem in_X2_X2_fail : ∀ w ∈ wsX20, w ∈ wsX2_fail := fun w h => List.mem_cons_of_mem _ (List.mem_append_right _ (h))
set_option maxHeartbeats 400000 in
set_option maxRecDepth 100000 in
theorem mX2_fail (l : Launch) (y : Nat → ClassId) (t : va_W) (b : Nat → Nat) (r : RS) (hz : r_rc r ≤ 20) (hst : ∀ j, r_st r j ≤ 3) : MGv l yX2_fail wsX2_fail 1 22 [.ref (b 0)] (tyA y) (wR b y r t) (wR b y (failR r) t) := by
  refine MGv.of (cc := cX2_fail) (maxL := 3) (by decide) rfl (Nat.le_of_ble_eq_true rfl) ?_
  intro D p e s m below meth c0 A ls hx hb hr hml hown hlocks hts hK hP hD hA hN hl hS
  have hl : lv_has ls 3 [(0, .ref (b 0))] := hl
  have hinX2 : ∀ w ∈ u_ws RX2 TX2 19, w ∈ wsX2_fail := in_X2_X2_fail
  refine lv_iconst (v := nI 0) hx hb dX2_fail_0 (by decide) ?_
  refine lv_istore_n (lv' := [(1, .int (nI 0)), (0, .ref (b 0))]) hx hb dX2_fail_1 rfl hl (by decide) rfl (fun ls hl => ?_)
  have loop : ∀ (n2 : Nat) (i : Nat) (H : Heap) (locs : List Loc) (ls : Array Slot), (i ≤ 32) → (33 ≤ i + n2) → va_P D vwCl (wR b y (rs_K r (keepF r i)) t) H → va_D A (wR b y (rs_K r (keepF r i)) t) → va_S A s.heap H locs → lv_has ls 3 [(0, .ref (b 0)), (1, .int (nI i))] → W p l e ({ frames := 1, cells := 0, slots := 0, locals := 22 }) s m [.ref (b 0)].toArray below meth c0 H locs 0 0 (GQv below D (tyA y) A (wR b y (failR r) t) [.ref (b 0)].toArray s) (F0 m 2 ls []) := by
    intro n2
    induction n2 with
    | zero =>
      intro i H locs ls hi hn hP hD hS hl
      omega
    | succ n2 ih2 =>
      intro i H locs ls hi hn hP hD hS hl
      refine lv_iload_n hx hb dX2_fail_2 rfl (lv_at hl 1 rfl) ?_
      refine lv_bipush (v := nI 32) hx hb dX2_fail_3 (by decide) ?_
      refine q_icmp_ge (tgt := 59) hx hb (show i < 2 ^ 31 by omega) (show 32 < 2 ^ 31 by omega) dX2_fail_5 (by decide) (fun (h5 : 32 ≤ i) => ?_) (fun (h5 : i < 32) => ?_)
      · have e32 : i = 32 := by omega
        subst e32
        generalize hr1 : rs_K r (keepF r 32) = r1 at hP hD
        have hz1 : r_rc r1 ≤ 20 := (by rw [← hr1]; exact hz)
        have hst1 : ∀ j, r_st r1 j ≤ 3 := (by rw [← hr1]; exact hst)
        have s0 := hst1 0
        have s1 := hst1 (r_rc r1 - 1)
        have tail : ∀ (r2 : RS) (H : Heap) (locs : List Loc) (ls : Array Slot), recsR r1 = r2 → va_P D vwCl (wR b y r2 t) H → va_D A (wR b y r2 t) → va_S A s.heap H locs → lv_has ls 3 [(0, .ref (b 0))] → W p l e ({ frames := 1, cells := 0, slots := 0, locals := 22 }) s m [.ref (b 0)].toArray below meth c0 H locs 0 0 (GQv below D (tyA y) A (wR b y (failR r) t) [.ref (b 0)].toArray s) (F0 m 142 ls []) := by
          intro r2 H locs ls e2 hP hD hS hl
          have hz : r_rc r2 ≤ 20 := Nat.le_trans (by rw [← e2]; exact recs_rc r1) hz1
          refine lv_aload_n hx hb dX2_fail_142 rfl (lv_at hl 0 rfl) ?_
          refine lv_iconst (v := nI 2) hx hb dX2_fail_143 (by decide) ?_
          refine callVv (rest := []) ⟨hx, hb, hml, hown, hts⟩ (mX2_stand l y t b r2 2 hz) (cwV 1 hts gX2_fail_X2_stand rfl rfl rfl (by decide +kernel) ⟨Nat.le_of_ble_eq_true rfl, Nat.le_of_ble_eq_true rfl⟩) (va_recv hK hP (ci := 2) (q0 := 0) rfl rfl) hK hP hD hS hA hN rfl hl.1 rfl (Nat.le_of_ble_eq_true rfl) dX2_fail_144 ⟨Nat.le_of_ble_eq_true rfl, Nat.le_of_ble_eq_true rfl⟩ (fun H locs hP hD hS => ?_)
          generalize hc1 : standR 2 r2 = c1 at hP hD
          have hP : va_P D vwCl (wR b y c1 t) H := hP
          have hD : va_D A (wR b y c1 t) := hD
          refine lv_aload_n hx hb dX2_fail_147 rfl (lv_at hl 0 rfl) ?_
          refine lv_iconst (v := nI 1) hx hb dX2_fail_148 (by decide) ?_
          refine rp_of (v := true) hx hb hts hinX2 hown hK hP hD hS (hts (.fieldLink RX2 82 "FencedWordsModel" "off" "Z") (List.mem_of_getElem? (i := 5) rfl)) dX2_fail_149 (fun H locs hP hD hS => ?_)
          refine lv_aload_n hx hb dX2_fail_152 rfl (lv_at hl 0 rfl) ?_
          refine lv_iconst (v := nI 0) hx hb dX2_fail_153 (by decide) ?_
          refine rp_op (v := false) hx hb hts hinX2 hown hK hP hD hS (hts (.fieldLink RX2 86 "FencedWordsModel" "open" "Z") (List.mem_of_getElem? (i := 6) rfl)) dX2_fail_154 (fun H locs hP hD hS => ?_)
          refine lv_iconst (v := nI 0) hx hb dX2_fail_157 (by decide) ?_
          refine lv_istore_n (lv' := [(2, .int (nI 0)), (0, .ref (b 0))]) hx hb dX2_fail_158 rfl hl (by decide) rfl (fun ls hl => ?_)
          have loop4 : ∀ (n159 : Nat) (i : Nat) (H : Heap) (locs : List Loc) (ls : Array Slot), (i ≤ 4) → (5 ≤ i + n159) → va_P D vwCl (wR b y (rs_fl (rs_op (rs_of c1 true) false) (clrB (r_fl c1) i)) t) H → va_D A (wR b y (rs_fl (rs_op (rs_of c1 true) false) (clrB (r_fl c1) i)) t) → va_S A s.heap H locs → lv_has ls 3 [(0, .ref (b 0)), (2, .int (nI i))] → W p l e ({ frames := 1, cells := 0, slots := 0, locals := 22 }) s m [.ref (b 0)].toArray below meth c0 H locs 0 0 (GQv below D (tyA y) A (wR b y (failR r) t) [.ref (b 0)].toArray s) (F0 m 159 ls []) := by
            intro n159
            induction n159 with
            | zero =>
              intro i H locs ls hi hn hP hD hS hl
              omega
            | succ n159 ih159 =>
              intro i H locs ls hi hn hP hD hS hl
              refine lv_iload_n hx hb dX2_fail_159 rfl (lv_at hl 1 rfl) ?_
              refine lv_iconst (v := nI 4) hx hb dX2_fail_160 (by decide) ?_
              refine q_icmp_ge (tgt := 177) hx hb (show i < 2 ^ 31 by omega) (show 4 < 2 ^ 31 by omega) dX2_fail_161 (by decide) (fun (h161 : 4 ≤ i) => ?_) (fun (h161 : i < 4) => ?_)
              · have e4 : i = 4 := by omega
                subst e4
                exact retGv hx hb hr hlocks hK hP hD hS dX2_fail_177 (by unfold failR failB; rw [hr1, e2, hc1])
              · refine lv_aload_n hx hb dX2_fail_164 rfl (lv_at hl 0 rfl) ?_
                refine rg_r3 hx hb hts hinX2 hown hK hP (hts (.fieldLink RX2 16 "FencedWordsModel" "flushed" "[Z") (List.mem_of_getElem? (i := 7) rfl)) dX2_fail_165 ?_
                refine lv_iload_n hx hb dX2_fail_168 rfl (lv_at hl 1 rfl) ?_
                refine lv_iconst (v := nI 0) hx hb dX2_fail_169 (by decide) ?_
                refine rt_fl (v := false) hx hb hK hP hD hS (show i < 4 by omega) dX2_fail_170 (fun H locs hP hD hS => ?_)
                refine lv_iinc (v := nI (i + 1)) (lv' := [(2, .int (nI (i + 1))), (0, .ref (b 0))]) hx hb dX2_fail_171 hl (k := 1) rfl (nI_add i 1) (by decide) rfl (fun ls hl => ?_)
                refine lv_goto (tgt := 159) hx hb dX2_fail_174 (by decide) ?_
                have hP : va_P D vwCl (wR b y (rs_fl (rs_fl (rs_op (rs_of c1 true) false) (clrB (r_fl c1) i)) (upB (clrB (r_fl c1) i) i false)) t) H := hP
                have hD : va_D A (wR b y (rs_fl (rs_fl (rs_op (rs_of c1 true) false) (clrB (r_fl c1) i)) (upB (clrB (r_fl c1) i) i false)) t) := hD
                rw [rss_fl, clrB_s] at hP hD
                exact ih159 (i + 1) _ _ _ (by omega) (by omega) hP hD hS (lv_sub hl [1, 0] rfl)
          have e0 : rs_op (rs_of c1 true) false = rs_fl (rs_op (rs_of c1 true) false) (clrB (r_fl c1) 0) := (by rw [clrB_0]; rfl)
          rw [e0] at hP hD
          exact loop4 5 0 _ _ _ (by omega) (by omega) hP hD hS (lv_sub hl [1, 0] rfl)
        refine lv_aload_n hx hb dX2_fail_59 rfl (lv_at hl 0 rfl) ?_
        refine rg_rc hx hb hts hinX2 hown hK hP (hts (.fieldLink RX2 52 "FencedWordsModel" "records" "I") (List.mem_of_getElem? (i := 3) rfl)) dX2_fail_60 ?_
        refine lv_iconst (v := nI 1) hx hb dX2_fail_63 (by decide) ?_
        refine lv_isub hx hb dX2_fail_64 ?_
        refine lv_istore_n (lv' := [(1, .int ((nI (r_rc r1)) - (nI 1))), (0, .ref (b 0))]) hx hb dX2_fail_65 rfl hl (by decide) rfl (fun ls hl => ?_)
        refine lv_aload_n hx hb dX2_fail_66 rfl (lv_at hl 1 rfl) ?_
        refine rg_rc hx hb hts hinX2 hown hK hP (hts (.fieldLink RX2 52 "FencedWordsModel" "records" "I") (List.mem_of_getElem? (i := 3) rfl)) dX2_fail_67 ?_
        refine q_if_le (tgt := 111) hx hb (show (r_rc r1) < 2 ^ 31 by omega) dX2_fail_70 (by decide) (fun (h70 : (r_rc r1) = 0) => ?_) (fun (h70 : ¬ (r_rc r1) = 0) => ?_)
        · refine lv_aload_n hx hb dX2_fail_111 rfl (lv_at hl 1 rfl) ?_
          refine rg_rc hx hb hts hinX2 hown hK hP (hts (.fieldLink RX2 52 "FencedWordsModel" "records" "I") (List.mem_of_getElem? (i := 3) rfl)) dX2_fail_112 ?_
          refine q_if_le (tgt := 142) hx hb (show (r_rc r1) < 2 ^ 31 by omega) dX2_fail_115 (by decide) (fun (h115 : (r_rc r1) = 0) => ?_) (fun (h115 : ¬ (r_rc r1) = 0) => ?_)
          · exact tail _ _ _ _ (by unfold recsR; rw [if_neg (fun q => q.1 h70), if_neg (fun q => q.1 h115)]) hP hD hS (lv_sub hl [1] rfl)
          · refine lv_aload_n hx hb dX2_fail_118 rfl (lv_at hl 1 rfl) ?_
            refine rg_r7 hx hb hts hinX2 hown hK hP (hts (.fieldLink RX2 30 "FencedWordsModel" "stands" "[I") (List.mem_of_getElem? (i := 4) rfl)) dX2_fail_119 ?_
            refine lv_iconst (v := nI 0) hx hb dX2_fail_122 (by decide) ?_
            refine rl_st hx hb hK hP (show 0 < 20 by omega) dX2_fail_123 ?_
            refine lv_iconst (v := nI 3) hx hb dX2_fail_124 (by decide) ?_
            refine q_icmp_ne (tgt := 142) hx hb (show (r_st r1 0) < 2 ^ 31 by omega) (show 3 < 2 ^ 31 by omega) dX2_fail_125 (by decide) (fun (h125 : ¬ (r_st r1 0) = 3) => ?_) (fun (h125 : (r_st r1 0) = 3) => ?_)
            · exact tail _ _ _ _ (by unfold recsR; rw [if_neg (fun q => q.1 h70), if_neg (fun q => h125 q.2.1)]) hP hD hS (lv_sub hl [1] rfl)
            · refine lv_aload_n hx hb dX2_fail_128 rfl (lv_at hl 1 rfl) ?_
              refine lv_bipush (v := nI 33) hx hb dX2_fail_129 (by decide) ?_
              refine callVi (rest := []) ⟨hx, hb, hml, hown, hts⟩ (mX2_bit l y t b r1 33 (by omega)) (cwV 1 hts gX2_fail_X2_bit rfl rfl rfl (by decide +kernel) ⟨Nat.le_of_ble_eq_true rfl, Nat.le_of_ble_eq_true rfl⟩) (va_recv hK hP (ci := 2) (q0 := 0) rfl rfl) hK hP hD hS hA hN rfl hl.1 rfl (Nat.le_of_ble_eq_true rfl) dX2_fail_131 ⟨Nat.le_of_ble_eq_true rfl, Nat.le_of_ble_eq_true rfl⟩ (fun H locs hP hD hS => ?_)
              refine q_ifb_eq (tgt := 142) hx hb dX2_fail_134 (by decide) (fun (h134 : (hbL (r_mk r1) 33) = false) => ?_) (fun (h134 : (hbL (r_mk r1) 33) = true) => ?_)
              · exact tail _ _ _ _ (by unfold recsR; rw [if_neg (fun q => q.1 h70), if_neg (fun q => absurd (q.2.2.symm.trans h134) (by decide))]) hP hD hS (lv_sub hl [1] rfl)
              · refine lv_aload_n hx hb dX2_fail_137 rfl (lv_at hl 1 rfl) ?_
                refine lv_iconst (v := nI 0) hx hb dX2_fail_138 (by decide) ?_
                refine rp_rc (v := 0) hx hb hts hinX2 hown hK hP hD hS (hts (.fieldLink RX2 52 "FencedWordsModel" "records" "I") (List.mem_of_getElem? (i := 3) rfl)) dX2_fail_139 (fun H locs hP hD hS => ?_)
                exact tail _ _ _ _ (by unfold recsR; rw [if_neg (fun q => q.1 h70), if_pos ⟨h115, h125, h134⟩]) hP hD hS (lv_sub hl [1] rfl)
        · rw [pk_sub (a := r_rc r1) (b := 1) (by omega)] at hl
          refine lv_aload_n hx hb dX2_fail_73 rfl (lv_at hl 1 rfl) ?_
          refine rg_r7 hx hb hts hinX2 hown hK hP (hts (.fieldLink RX2 30 "FencedWordsModel" "stands" "[I") (List.mem_of_getElem? (i := 4) rfl)) dX2_fail_74 ?_
          refine lv_iload_n hx hb dX2_fail_77 rfl (lv_at hl 0 rfl) ?_
          refine rl_st hx hb hK hP (show (r_rc r1 - 1) < 20 by omega) dX2_fail_78 ?_
          refine q_if_eq (tgt := 101) hx hb (show (r_st r1 (r_rc r1 - 1)) < 2 ^ 31 by omega) dX2_fail_79 (by decide) (fun (h79 : (r_st r1 (r_rc r1 - 1)) = 0) => ?_) (fun (h79 : ¬ (r_st r1 (r_rc r1 - 1)) = 0) => ?_)
          · refine lv_aload_n hx hb dX2_fail_101 rfl (lv_at hl 1 rfl) ?_
            refine lv_dup hx hb dX2_fail_102 rfl ?_
            refine rg_rc hx hb hts hinX2 hown hK hP (hts (.fieldLink RX2 52 "FencedWordsModel" "records" "I") (List.mem_of_getElem? (i := 3) rfl)) dX2_fail_103 ?_
            refine lv_iconst (v := nI 1) hx hb dX2_fail_106 (by decide) ?_
            refine q_isub hx hb (show 1 ≤ (r_rc r1) by omega) dX2_fail_107 ?_
            refine rp_rc (v := (r_rc r1) - 1) hx hb hts hinX2 hown hK hP hD hS (hts (.fieldLink RX2 52 "FencedWordsModel" "records" "I") (List.mem_of_getElem? (i := 3) rfl)) dX2_fail_108 (fun H locs hP hD hS => ?_)
            refine lv_aload_n hx hb dX2_fail_111 rfl (lv_at hl 1 rfl) ?_
            refine rg_rc hx hb hts hinX2 hown hK hP (hts (.fieldLink RX2 52 "FencedWordsModel" "records" "I") (List.mem_of_getElem? (i := 3) rfl)) dX2_fail_112 ?_
            refine q_if_le (tgt := 142) hx hb (show ((r_rc r1) - 1) < 2 ^ 31 by omega) dX2_fail_115 (by decide) (fun (h115 : ((r_rc r1) - 1) = 0) => ?_) (fun (h115 : ¬ ((r_rc r1) - 1) = 0) => ?_)
            · exact tail _ _ _ _ (by unfold recsR; rw [if_pos ⟨h70, Or.inl h79⟩, if_neg (fun q => q.1 h115)]) hP hD hS (lv_sub hl [1] rfl)
            · refine lv_aload_n hx hb dX2_fail_118 rfl (lv_at hl 1 rfl) ?_
              refine rg_r7 hx hb hts hinX2 hown hK hP (hts (.fieldLink RX2 30 "FencedWordsModel" "stands" "[I") (List.mem_of_getElem? (i := 4) rfl)) dX2_fail_119 ?_
              refine lv_iconst (v := nI 0) hx hb dX2_fail_122 (by decide) ?_
              refine rl_st hx hb hK hP (show 0 < 20 by omega) dX2_fail_123 ?_
              refine lv_iconst (v := nI 3) hx hb dX2_fail_124 (by decide) ?_
              refine q_icmp_ne (tgt := 142) hx hb (show (r_st r1 0) < 2 ^ 31 by omega) (show 3 < 2 ^ 31 by omega) dX2_fail_125 (by decide) (fun (h125 : ¬ (r_st r1 0) = 3) => ?_) (fun (h125 : (r_st r1 0) = 3) => ?_)
              · exact tail _ _ _ _ (by unfold recsR; rw [if_pos ⟨h70, Or.inl h79⟩, if_neg (fun q => h125 q.2.1)]) hP hD hS (lv_sub hl [1] rfl)
              · refine lv_aload_n hx hb dX2_fail_128 rfl (lv_at hl 1 rfl) ?_
                refine lv_bipush (v := nI 33) hx hb dX2_fail_129 (by decide) ?_
                refine callVi (rest := []) ⟨hx, hb, hml, hown, hts⟩ (mX2_bit l y t b (rs_rc r1 ((r_rc r1) - 1)) 33 (by omega)) (cwV 1 hts gX2_fail_X2_bit rfl rfl rfl (by decide +kernel) ⟨Nat.le_of_ble_eq_true rfl, Nat.le_of_ble_eq_true rfl⟩) (va_recv hK hP (ci := 2) (q0 := 0) rfl rfl) hK hP hD hS hA hN rfl hl.1 rfl (Nat.le_of_ble_eq_true rfl) dX2_fail_131 ⟨Nat.le_of_ble_eq_true rfl, Nat.le_of_ble_eq_true rfl⟩ (fun H locs hP hD hS => ?_)
                refine q_ifb_eq (tgt := 142) hx hb dX2_fail_134 (by decide) (fun (h134 : (hbL (r_mk r1) 33) = false) => ?_) (fun (h134 : (hbL (r_mk r1) 33) = true) => ?_)
                · exact tail _ _ _ _ (by unfold recsR; rw [if_pos ⟨h70, Or.inl h79⟩, if_neg (fun q => absurd (q.2.2.symm.trans h134) (by decide))]) hP hD hS (lv_sub hl [1] rfl)
                · refine lv_aload_n hx hb dX2_fail_137 rfl (lv_at hl 1 rfl) ?_
                  refine lv_iconst (v := nI 0) hx hb dX2_fail_138 (by decide) ?_
                  refine rp_rc (v := 0) hx hb hts hinX2 hown hK hP hD hS (hts (.fieldLink RX2 52 "FencedWordsModel" "records" "I") (List.mem_of_getElem? (i := 3) rfl)) dX2_fail_139 (fun H locs hP hD hS => ?_)
                  exact tail _ _ _ _ (by unfold recsR; rw [if_pos ⟨h70, Or.inl h79⟩, if_pos ⟨h115, h125, h134⟩]) hP hD hS (lv_sub hl [1] rfl)
          · refine lv_aload_n hx hb dX2_fail_82 rfl (lv_at hl 1 rfl) ?_
            refine rg_r7 hx hb hts hinX2 hown hK hP (hts (.fieldLink RX2 30 "FencedWordsModel" "stands" "[I") (List.mem_of_getElem? (i := 4) rfl)) dX2_fail_83 ?_
            refine lv_iload_n hx hb dX2_fail_86 rfl (lv_at hl 0 rfl) ?_
            refine rl_st hx hb hK hP (show (r_rc r1 - 1) < 20 by omega) dX2_fail_87 ?_
            refine lv_iconst (v := nI 1) hx hb dX2_fail_88 (by decide) ?_
            refine q_icmp_ne (tgt := 111) hx hb (show (r_st r1 (r_rc r1 - 1)) < 2 ^ 31 by omega) (show 1 < 2 ^ 31 by omega) dX2_fail_89 (by decide) (fun (h89 : ¬ (r_st r1 (r_rc r1 - 1)) = 1) => ?_) (fun (h89 : (r_st r1 (r_rc r1 - 1)) = 1) => ?_)
            · refine lv_aload_n hx hb dX2_fail_111 rfl (lv_at hl 1 rfl) ?_
              refine rg_rc hx hb hts hinX2 hown hK hP (hts (.fieldLink RX2 52 "FencedWordsModel" "records" "I") (List.mem_of_getElem? (i := 3) rfl)) dX2_fail_112 ?_
              refine q_if_le (tgt := 142) hx hb (show (r_rc r1) < 2 ^ 31 by omega) dX2_fail_115 (by decide) (fun (h115 : (r_rc r1) = 0) => ?_) (fun (h115 : ¬ (r_rc r1) = 0) => ?_)
              · exact tail _ _ _ _ (by unfold recsR; rw [if_neg (fun q => q.2.elim h79 (fun z => h89 z.1)), if_neg (fun q => q.1 h115)]) hP hD hS (lv_sub hl [1] rfl)
              · refine lv_aload_n hx hb dX2_fail_118 rfl (lv_at hl 1 rfl) ?_
                refine rg_r7 hx hb hts hinX2 hown hK hP (hts (.fieldLink RX2 30 "FencedWordsModel" "stands" "[I") (List.mem_of_getElem? (i := 4) rfl)) dX2_fail_119 ?_
                refine lv_iconst (v := nI 0) hx hb dX2_fail_122 (by decide) ?_
                refine rl_st hx hb hK hP (show 0 < 20 by omega) dX2_fail_123 ?_
                refine lv_iconst (v := nI 3) hx hb dX2_fail_124 (by decide) ?_
                refine q_icmp_ne (tgt := 142) hx hb (show (r_st r1 0) < 2 ^ 31 by omega) (show 3 < 2 ^ 31 by omega) dX2_fail_125 (by decide) (fun (h125 : ¬ (r_st r1 0) = 3) => ?_) (fun (h125 : (r_st r1 0) = 3) => ?_)
                · exact tail _ _ _ _ (by unfold recsR; rw [if_neg (fun q => q.2.elim h79 (fun z => h89 z.1)), if_neg (fun q => h125 q.2.1)]) hP hD hS (lv_sub hl [1] rfl)
                · refine lv_aload_n hx hb dX2_fail_128 rfl (lv_at hl 1 rfl) ?_
                  refine lv_bipush (v := nI 33) hx hb dX2_fail_129 (by decide) ?_
                  refine callVi (rest := []) ⟨hx, hb, hml, hown, hts⟩ (mX2_bit l y t b r1 33 (by omega)) (cwV 1 hts gX2_fail_X2_bit rfl rfl rfl (by decide +kernel) ⟨Nat.le_of_ble_eq_true rfl, Nat.le_of_ble_eq_true rfl⟩) (va_recv hK hP (ci := 2) (q0 := 0) rfl rfl) hK hP hD hS hA hN rfl hl.1 rfl (Nat.le_of_ble_eq_true rfl) dX2_fail_131 ⟨Nat.le_of_ble_eq_true rfl, Nat.le_of_ble_eq_true rfl⟩ (fun H locs hP hD hS => ?_)
                  refine q_ifb_eq (tgt := 142) hx hb dX2_fail_134 (by decide) (fun (h134 : (hbL (r_mk r1) 33) = false) => ?_) (fun (h134 : (hbL (r_mk r1) 33) = true) => ?_)
                  · exact tail _ _ _ _ (by unfold recsR; rw [if_neg (fun q => q.2.elim h79 (fun z => h89 z.1)), if_neg (fun q => absurd (q.2.2.symm.trans h134) (by decide))]) hP hD hS (lv_sub hl [1] rfl)
                  · refine lv_aload_n hx hb dX2_fail_137 rfl (lv_at hl 1 rfl) ?_
                    refine lv_iconst (v := nI 0) hx hb dX2_fail_138 (by decide) ?_
                    refine rp_rc (v := 0) hx hb hts hinX2 hown hK hP hD hS (hts (.fieldLink RX2 52 "FencedWordsModel" "records" "I") (List.mem_of_getElem? (i := 3) rfl)) dX2_fail_139 (fun H locs hP hD hS => ?_)
                    exact tail _ _ _ _ (by unfold recsR; rw [if_neg (fun q => q.2.elim h79 (fun z => h89 z.1)), if_pos ⟨h115, h125, h134⟩]) hP hD hS (lv_sub hl [1] rfl)
            · refine lv_aload_n hx hb dX2_fail_92 rfl (lv_at hl 1 rfl) ?_
              refine lv_bipush (v := nI 32) hx hb dX2_fail_93 (by decide) ?_
              refine callVi (rest := []) ⟨hx, hb, hml, hown, hts⟩ (mX2_bit l y t b r1 32 (by omega)) (cwV 1 hts gX2_fail_X2_bit rfl rfl rfl (by decide +kernel) ⟨Nat.le_of_ble_eq_true rfl, Nat.le_of_ble_eq_true rfl⟩) (va_recv hK hP (ci := 2) (q0 := 0) rfl rfl) hK hP hD hS hA hN rfl hl.1 rfl (Nat.le_of_ble_eq_true rfl) dX2_fail_95 ⟨Nat.le_of_ble_eq_true rfl, Nat.le_of_ble_eq_true rfl⟩ (fun H locs hP hD hS => ?_)
              refine q_ifb_ne (tgt := 111) hx hb dX2_fail_98 (by decide) (fun (h98 : (hbL (r_mk r1) 32) = true) => ?_) (fun (h98 : (hbL (r_mk r1) 32) = false) => ?_)
              · refine lv_aload_n hx hb dX2_fail_111 rfl (lv_at hl 1 rfl) ?_
                refine rg_rc hx hb hts hinX2 hown hK hP (hts (.fieldLink RX2 52 "FencedWordsModel" "records" "I") (List.mem_of_getElem? (i := 3) rfl)) dX2_fail_112 ?_
                refine q_if_le (tgt := 142) hx hb (show (r_rc r1) < 2 ^ 31 by omega) dX2_fail_115 (by decide) (fun (h115 : (r_rc r1) = 0) => ?_) (fun (h115 : ¬ (r_rc r1) = 0) => ?_)
                · exact tail _ _ _ _ (by unfold recsR; rw [if_neg (fun q => q.2.elim h79 (fun z => absurd (z.2.symm.trans h98) (by decide))), if_neg (fun q => q.1 h115)]) hP hD hS (lv_sub hl [1] rfl)
                · refine lv_aload_n hx hb dX2_fail_118 rfl (lv_at hl 1 rfl) ?_
                  refine rg_r7 hx hb hts hinX2 hown hK hP (hts (.fieldLink RX2 30 "FencedWordsModel" "stands" "[I") (List.mem_of_getElem? (i := 4) rfl)) dX2_fail_119 ?_
                  refine lv_iconst (v := nI 0) hx hb dX2_fail_122 (by decide) ?_
                  refine rl_st hx hb hK hP (show 0 < 20 by omega) dX2_fail_123 ?_
                  refine lv_iconst (v := nI 3) hx hb dX2_fail_124 (by decide) ?_
                  refine q_icmp_ne (tgt := 142) hx hb (show (r_st r1 0) < 2 ^ 31 by omega) (show 3 < 2 ^ 31 by omega) dX2_fail_125 (by decide) (fun (h125 : ¬ (r_st r1 0) = 3) => ?_) (fun (h125 : (r_st r1 0) = 3) => ?_)
                  · exact tail _ _ _ _ (by unfold recsR; rw [if_neg (fun q => q.2.elim h79 (fun z => absurd (z.2.symm.trans h98) (by decide))), if_neg (fun q => h125 q.2.1)]) hP hD hS (lv_sub hl [1] rfl)
                  · refine lv_aload_n hx hb dX2_fail_128 rfl (lv_at hl 1 rfl) ?_
                    refine lv_bipush (v := nI 33) hx hb dX2_fail_129 (by decide) ?_
                    refine callVi (rest := []) ⟨hx, hb, hml, hown, hts⟩ (mX2_bit l y t b r1 33 (by omega)) (cwV 1 hts gX2_fail_X2_bit rfl rfl rfl (by decide +kernel) ⟨Nat.le_of_ble_eq_true rfl, Nat.le_of_ble_eq_true rfl⟩) (va_recv hK hP (ci := 2) (q0 := 0) rfl rfl) hK hP hD hS hA hN rfl hl.1 rfl (Nat.le_of_ble_eq_true rfl) dX2_fail_131 ⟨Nat.le_of_ble_eq_true rfl, Nat.le_of_ble_eq_true rfl⟩ (fun H locs hP hD hS => ?_)
                    refine q_ifb_eq (tgt := 142) hx hb dX2_fail_134 (by decide) (fun (h134 : (hbL (r_mk r1) 33) = false) => ?_) (fun (h134 : (hbL (r_mk r1) 33) = true) => ?_)
                    · exact tail _ _ _ _ (by unfold recsR; rw [if_neg (fun q => q.2.elim h79 (fun z => absurd (z.2.symm.trans h98) (by decide))), if_neg (fun q => absurd (q.2.2.symm.trans h134) (by decide))]) hP hD hS (lv_sub hl [1] rfl)
                    · refine lv_aload_n hx hb dX2_fail_137 rfl (lv_at hl 1 rfl) ?_
                      refine lv_iconst (v := nI 0) hx hb dX2_fail_138 (by decide) ?_
                      refine rp_rc (v := 0) hx hb hts hinX2 hown hK hP hD hS (hts (.fieldLink RX2 52 "FencedWordsModel" "records" "I") (List.mem_of_getElem? (i := 3) rfl)) dX2_fail_139 (fun H locs hP hD hS => ?_)
                      exact tail _ _ _ _ (by unfold recsR; rw [if_neg (fun q => q.2.elim h79 (fun z => absurd (z.2.symm.trans h98) (by decide))), if_pos ⟨h115, h125, h134⟩]) hP hD hS (lv_sub hl [1] rfl)
              · refine lv_aload_n hx hb dX2_fail_101 rfl (lv_at hl 1 rfl) ?_
                refine lv_dup hx hb dX2_fail_102 rfl ?_
                refine rg_rc hx hb hts hinX2 hown hK hP (hts (.fieldLink RX2 52 "FencedWordsModel" "records" "I") (List.mem_of_getElem? (i := 3) rfl)) dX2_fail_103 ?_
                refine lv_iconst (v := nI 1) hx hb dX2_fail_106 (by decide) ?_
                refine q_isub hx hb (show 1 ≤ (r_rc r1) by omega) dX2_fail_107 ?_
                refine rp_rc (v := (r_rc r1) - 1) hx hb hts hinX2 hown hK hP hD hS (hts (.fieldLink RX2 52 "FencedWordsModel" "records" "I") (List.mem_of_getElem? (i := 3) rfl)) dX2_fail_108 (fun H locs hP hD hS => ?_)
                refine lv_aload_n hx hb dX2_fail_111 rfl (lv_at hl 1 rfl) ?_
                refine rg_rc hx hb hts hinX2 hown hK hP (hts (.fieldLink RX2 52 "FencedWordsModel" "records" "I") (List.mem_of_getElem? (i := 3) rfl)) dX2_fail_112 ?_
                refine q_if_le (tgt := 142) hx hb (show ((r_rc r1) - 1) < 2 ^ 31 by omega) dX2_fail_115 (by decide) (fun (h115 : ((r_rc r1) - 1) = 0) => ?_) (fun (h115 : ¬ ((r_rc r1) - 1) = 0) => ?_)
                · exact tail _ _ _ _ (by unfold recsR; rw [if_pos ⟨h70, Or.inr ⟨h89, h98⟩⟩, if_neg (fun q => q.1 h115)]) hP hD hS (lv_sub hl [1] rfl)
                · refine lv_aload_n hx hb dX2_fail_118 rfl (lv_at hl 1 rfl) ?_
                  refine rg_r7 hx hb hts hinX2 hown hK hP (hts (.fieldLink RX2 30 "FencedWordsModel" "stands" "[I") (List.mem_of_getElem? (i := 4) rfl)) dX2_fail_119 ?_
                  refine lv_iconst (v := nI 0) hx hb dX2_fail_122 (by decide) ?_
                  refine rl_st hx hb hK hP (show 0 < 20 by omega) dX2_fail_123 ?_
                  refine lv_iconst (v := nI 3) hx hb dX2_fail_124 (by decide) ?_
                  refine q_icmp_ne (tgt := 142) hx hb (show (r_st r1 0) < 2 ^ 31 by omega) (show 3 < 2 ^ 31 by omega) dX2_fail_125 (by decide) (fun (h125 : ¬ (r_st r1 0) = 3) => ?_) (fun (h125 : (r_st r1 0) = 3) => ?_)
                  · exact tail _ _ _ _ (by unfold recsR; rw [if_pos ⟨h70, Or.inr ⟨h89, h98⟩⟩, if_neg (fun q => h125 q.2.1)]) hP hD hS (lv_sub hl [1] rfl)
                  · refine lv_aload_n hx hb dX2_fail_128 rfl (lv_at hl 1 rfl) ?_
                    refine lv_bipush (v := nI 33) hx hb dX2_fail_129 (by decide) ?_
                    refine callVi (rest := []) ⟨hx, hb, hml, hown, hts⟩ (mX2_bit l y t b (rs_rc r1 ((r_rc r1) - 1)) 33 (by omega)) (cwV 1 hts gX2_fail_X2_bit rfl rfl rfl (by decide +kernel) ⟨Nat.le_of_ble_eq_true rfl, Nat.le_of_ble_eq_true rfl⟩) (va_recv hK hP (ci := 2) (q0 := 0) rfl rfl) hK hP hD hS hA hN rfl hl.1 rfl (Nat.le_of_ble_eq_true rfl) dX2_fail_131 ⟨Nat.le_of_ble_eq_true rfl, Nat.le_of_ble_eq_true rfl⟩ (fun H locs hP hD hS => ?_)
                    refine q_ifb_eq (tgt := 142) hx hb dX2_fail_134 (by decide) (fun (h134 : (hbL (r_mk r1) 33) = false) => ?_) (fun (h134 : (hbL (r_mk r1) 33) = true) => ?_)
                    · exact tail _ _ _ _ (by unfold recsR; rw [if_pos ⟨h70, Or.inr ⟨h89, h98⟩⟩, if_neg (fun q => absurd (q.2.2.symm.trans h134) (by decide))]) hP hD hS (lv_sub hl [1] rfl)
                    · refine lv_aload_n hx hb dX2_fail_137 rfl (lv_at hl 1 rfl) ?_
                      refine lv_iconst (v := nI 0) hx hb dX2_fail_138 (by decide) ?_
                      refine rp_rc (v := 0) hx hb hts hinX2 hown hK hP hD hS (hts (.fieldLink RX2 52 "FencedWordsModel" "records" "I") (List.mem_of_getElem? (i := 3) rfl)) dX2_fail_139 (fun H locs hP hD hS => ?_)
                      exact tail _ _ _ _ (by unfold recsR; rw [if_pos ⟨h70, Or.inr ⟨h89, h98⟩⟩, if_pos ⟨h115, h125, h134⟩]) hP hD hS (lv_sub hl [1] rfl)
      · refine lv_aload_n hx hb dX2_fail_8 rfl (lv_at hl 0 rfl) ?_
        refine rg_r2 hx hb hts hinX2 hown hK hP (hts (.fieldLink RX2 13 "FencedWordsModel" "kept" "[J") (List.mem_of_getElem? (i := 1) rfl)) dX2_fail_9 ?_
        refine lv_iload_n hx hb dX2_fail_12 rfl (lv_at hl 1 rfl) ?_
        refine lv_aload_n hx hb dX2_fail_13 rfl (lv_at hl 0 rfl) ?_
        refine rg_r1 hx hb hts hinX2 hown hK hP (hts (.fieldLink RX2 7 "FencedWordsModel" "seen" "[J") (List.mem_of_getElem? (i := 2) rfl)) dX2_fail_14 ?_
        refine lv_iload_n hx hb dX2_fail_17 rfl (lv_at hl 1 rfl) ?_
        refine rl_S hx hb hK hP (show i < 32 by omega) dX2_fail_18 ?_
        refine lv_aload_n hx hb dX2_fail_19 rfl (lv_at hl 0 rfl) ?_
        refine rg_r2 hx hb hts hinX2 hown hK hP (hts (.fieldLink RX2 13 "FencedWordsModel" "kept" "[J") (List.mem_of_getElem? (i := 1) rfl)) dX2_fail_20 ?_
        refine lv_iload_n hx hb dX2_fail_23 rfl (lv_at hl 1 rfl) ?_
        refine rl_K hx hb hK hP (show i < 32 by omega) dX2_fail_24 ?_
        refine W.lcmp hx hb dX2_fail_25 ?_
        refine lv_if_eq (tgt := 46) hx hb dX2_fail_26 (by decide) (fun (h26 : (lg_cmp (r_S r i) ((keepF r i) i)) = 0) => ?_) (fun (h26 : ¬ (lg_cmp (r_S r i) ((keepF r i) i)) = 0) => ?_)
        · refine lv_aload_n hx hb dX2_fail_46 rfl (lv_at hl 0 rfl) ?_
          refine rg_r2 hx hb hts hinX2 hown hK hP (hts (.fieldLink RX2 13 "FencedWordsModel" "kept" "[J") (List.mem_of_getElem? (i := 1) rfl)) dX2_fail_47 ?_
          refine lv_iload_n hx hb dX2_fail_50 rfl (lv_at hl 1 rfl) ?_
          refine rl_K hx hb hK hP (show i < 32 by omega) dX2_fail_51 ?_
          refine rt_K (v := (keepF r i) i) hx hb hK hP hD hS (show i < 32 by omega) dX2_fail_52 (fun H locs hP hD hS => ?_)
          refine lv_iinc (v := nI (i + 1)) (lv' := [(1, .int (nI (i + 1))), (0, .ref (b 0))]) hx hb dX2_fail_53 hl (k := 1) rfl (nI_add i 1) (by decide) rfl (fun ls hl => ?_)
          refine lv_goto (tgt := 2) hx hb dX2_fail_56 (by decide) ?_
          have hP : va_P D vwCl (wR b y (rs_K (rs_K r (keepF r i)) (vp_updL (keepF r i) i ((keepF r i) i))) t) H := hP
          have hD : va_D A (wR b y (rs_K (rs_K r (keepF r i)) (vp_updL (keepF r i) i ((keepF r i) i))) t) := hD
          rw [rss_K, keepF_e ((lg_cmp_0 _ _).mp h26)] at hP hD
          exact ih2 (i + 1) _ _ _ (by omega) (by omega) hP hD hS (lv_sub hl [1, 0] rfl)
        · refine lv_aload_n hx hb dX2_fail_29 rfl (lv_at hl 0 rfl) ?_
          refine lv_iload_n hx hb dX2_fail_30 rfl (lv_at hl 1 rfl) ?_
          refine callVi (rest := [.int (nI i), .ref (b 2)]) ⟨hx, hb, hml, hown, hts⟩ (mX2_bit l y t b (rs_K r (keepF r i)) i (by omega)) (cwV 1 hts gX2_fail_X2_bit rfl rfl rfl (by decide +kernel) ⟨Nat.le_of_ble_eq_true rfl, Nat.le_of_ble_eq_true rfl⟩) (va_recv hK hP (ci := 2) (q0 := 0) rfl rfl) hK hP hD hS hA hN rfl hl.1 rfl (Nat.le_of_ble_eq_true rfl) dX2_fail_31 ⟨Nat.le_of_ble_eq_true rfl, Nat.le_of_ble_eq_true rfl⟩ (fun H locs hP hD hS => ?_)
          refine q_ifb_eq (tgt := 46) hx hb dX2_fail_34 (by decide) (fun (h34 : (hbL (r_mk r) i) = false) => ?_) (fun (h34 : (hbL (r_mk r) i) = true) => ?_)
          · refine lv_aload_n hx hb dX2_fail_46 rfl (lv_at hl 0 rfl) ?_
            refine rg_r2 hx hb hts hinX2 hown hK hP (hts (.fieldLink RX2 13 "FencedWordsModel" "kept" "[J") (List.mem_of_getElem? (i := 1) rfl)) dX2_fail_47 ?_
            refine lv_iload_n hx hb dX2_fail_50 rfl (lv_at hl 1 rfl) ?_
            refine rl_K hx hb hK hP (show i < 32 by omega) dX2_fail_51 ?_
            refine rt_K (v := (keepF r i) i) hx hb hK hP hD hS (show i < 32 by omega) dX2_fail_52 (fun H locs hP hD hS => ?_)
            refine lv_iinc (v := nI (i + 1)) (lv' := [(1, .int (nI (i + 1))), (0, .ref (b 0))]) hx hb dX2_fail_53 hl (k := 1) rfl (nI_add i 1) (by decide) rfl (fun ls hl => ?_)
            refine lv_goto (tgt := 2) hx hb dX2_fail_56 (by decide) ?_
            have hP : va_P D vwCl (wR b y (rs_K (rs_K r (keepF r i)) (vp_updL (keepF r i) i ((keepF r i) i))) t) H := hP
            have hD : va_D A (wR b y (rs_K (rs_K r (keepF r i)) (vp_updL (keepF r i) i ((keepF r i) i))) t) := hD
            rw [rss_K, keepF_f h34] at hP hD
            exact ih2 (i + 1) _ _ _ (by omega) (by omega) hP hD hS (lv_sub hl [1, 0] rfl)
          · refine lv_aload_n hx hb dX2_fail_37 rfl (lv_at hl 0 rfl) ?_
            refine rg_r1 hx hb hts hinX2 hown hK hP (hts (.fieldLink RX2 7 "FencedWordsModel" "seen" "[J") (List.mem_of_getElem? (i := 2) rfl)) dX2_fail_38 ?_
            refine lv_iload_n hx hb dX2_fail_41 rfl (lv_at hl 1 rfl) ?_
            refine rl_S hx hb hK hP (show i < 32 by omega) dX2_fail_42 ?_
            refine lv_goto (tgt := 52) hx hb dX2_fail_43 (by decide) ?_
            refine rt_K (v := r_S r i) hx hb hK hP hD hS (show i < 32 by omega) dX2_fail_52 (fun H locs hP hD hS => ?_)
            refine lv_iinc (v := nI (i + 1)) (lv' := [(1, .int (nI (i + 1))), (0, .ref (b 0))]) hx hb dX2_fail_53 hl (k := 1) rfl (nI_add i 1) (by decide) rfl (fun ls hl => ?_)
            refine lv_goto (tgt := 2) hx hb dX2_fail_56 (by decide) ?_
            have hP : va_P D vwCl (wR b y (rs_K (rs_K r (keepF r i)) (vp_updL (keepF r i) i (r_S r i))) t) H := hP
            have hD : va_D A (wR b y (rs_K (rs_K r (keepF r i)) (vp_updL (keepF r i) i (r_S r i))) t) := hD
            rw [rss_K, keepF_t h34] at hP hD
            exact ih2 (i + 1) _ _ _ (by omega) (by omega) hP hD hS (lv_sub hl [1, 0] rfl)
  have e0 : r = rs_K r (keepF r 0) := (by rw [keepF_0]; rfl)
  rw [e0] at hP hD
  exact loop 33 0 _ _ _ (by omega) (by omega) hP hD hS (lv_sub hl [1, 0] rfl)
theorem in_X2_X2_go : ∀ w ∈ wsX20, w ∈ wsX2_go := fun w h => List.mem_cons_of_mem _ (List.mem_append_right _ (h))
set_option maxHeartbeats 400000 in
set_option maxRecDepth 100000 in
theorem mX2_go (l : Launch) (y : Nat → ClassId) (t : va_W) (b : Nat → Nat) (r : RS) (hO : AOK r) : MGi l yX2_go wsX2_go 2 44 [.ref (b 0)] (tyA y) (wR b y r t) (bRes (goF r).1) (wR b y ((goF r).2) t) := by
  refine MGi.of (cc := cX2_go) (maxL := 2) (by decide) rfl (Nat.le_of_ble_eq_true rfl) ?_
  intro D p e s m below meth c0 A ls hx hb hr hml hown hlocks hts hK hP hD hA hN hl hS
  have hl : lv_has ls 2 [(0, .ref (b 0))] := hl
  have hinX2 : ∀ w ∈ u_ws RX2 TX2 19, w ∈ wsX2_go := in_X2_X2_go
  have hac0 := hO.1
  refine lv_iconst (v := nI 0) hx hb dX2_go_0 (by decide) ?_
  refine lv_istore_n (lv' := [(1, .int (nI 0)), (0, .ref (b 0))]) hx hb dX2_go_1 rfl hl (by decide) rfl (fun ls hl => ?_)
  have loop : ∀ (n2 : Nat) (k : Nat) (d : RS) (H : Heap) (locs : List Loc) (ls : Array Slot), (k ≤ r_ac d) → (r_ac d + 1 ≤ k + n2) → (AOK d) → (goF r = goR (r_ac d - k) k d) → va_P D vwCl (wR b y d t) H → va_D A (wR b y d t) → va_S A s.heap H locs → lv_has ls 2 [(0, .ref (b 0)), (1, .int (nI k))] → W p l e ({ frames := 2, cells := 0, slots := 0, locals := 44 }) s m [.ref (b 0)].toArray below meth c0 H locs 0 0 (GQi below D (tyA y) A (bRes (goF r).1) (wR b y ((goF r).2) t) [.ref (b 0)].toArray s) (F0 m 2 ls []) := by
    intro n2
    induction n2 with
    | zero =>
      intro k d H locs ls hi hn hO hE hP hD hS hl
      omega
    | succ n2 ih2 =>
      intro k d H locs ls hi hn hO hE hP hD hS hl
      have hac0 := hO.1
      refine lv_iload_n hx hb dX2_go_2 rfl (lv_at hl 1 rfl) ?_
      refine lv_aload_n hx hb dX2_go_3 rfl (lv_at hl 0 rfl) ?_
      refine rg_ac hx hb hts hinX2 hown hK hP (hts (.fieldLink RX2 48 "FencedWordsModel" "acts" "I") (List.mem_of_getElem? (i := 1) rfl)) dX2_go_4 ?_
      refine q_icmp_ge (tgt := 52) hx hb (show k < 2 ^ 31 by omega) (show (r_ac d) < 2 ^ 31 by omega) dX2_go_7 (by decide) (fun (h7 : (r_ac d) ≤ k) => ?_) (fun (h7 : k < (r_ac d)) => ?_)
      · refine lv_iconst (v := nI 0) hx hb dX2_go_52 (by decide) ?_
        exact retGi hx hb hr hlocks hK hP hD hS dX2_go_53 (by rw [hE, show r_ac d - k = 0 by omega]; rfl) (by rw [hE, show r_ac d - k = 0 by omega]; rfl)
      · obtain ⟨g1, g2, g3, g4, g5, g6⟩ := id hO
        obtain ⟨o1, o2, o3⟩ := g5 k h7
        have o4 : r_an d k = 4 ∨ r_an d k = 5 → 1 ≤ r_rc d := (by intro q; rcases g6 with z | z; exact z.1; have := z k h7; omega)
        refine lv_aload_n hx hb dX2_go_10 rfl (lv_at hl 0 rfl) ?_
        refine lv_iload_n hx hb dX2_go_11 rfl (lv_at hl 1 rfl) ?_
        refine callVv (rest := []) ⟨hx, hb, hml, hown, hts⟩ (mX2_one l y t b d k (by omega) (by omega) o1 o2 o3 o4) (cwV 1 hts gX2_go_X2_one rfl rfl rfl (by decide +kernel) ⟨Nat.le_of_ble_eq_true rfl, Nat.le_of_ble_eq_true rfl⟩) (va_recv hK hP (ci := 2) (q0 := 0) rfl rfl) hK hP hD hS hA hN rfl hl.1 rfl (Nat.le_of_ble_eq_true rfl) dX2_go_12 ⟨Nat.le_of_ble_eq_true rfl, Nat.le_of_ble_eq_true rfl⟩ (fun H locs hP hD hS => ?_)
        generalize hc1 : oneR (r_an d k) (r_on d k) (r_wi d k) d = c1 at hP hD
        have hP : va_P D vwCl (wR b y c1 t) H := hP
        have hD : va_D A (wR b y c1 t) := hD
        have hO1 : AOK c1 := hc1 ▸ AOK_one hO h7
        have a1 := hO1.2.2.1
        have hzf := hO1.2.1
        have hstf := hO1.2.2.2.1
        have hac1 : r_ac c1 = r_ac d := (by rw [← hc1]; exact one_ac _ _ _ _)
        refine lv_aload_n hx hb dX2_go_15 rfl (lv_at hl 0 rfl) ?_
        refine rg_ar hx hb hts hinX2 hown hK hP (hts (.fieldLink RX2 68 "FencedWordsModel" "armed" "I") (List.mem_of_getElem? (i := 2) rfl)) dX2_go_16 ?_
        refine q_if_le (tgt := 46) hx hb (show (r_ar c1) < 2 ^ 31 by omega) dX2_go_19 (by decide) (fun (h19 : (r_ar c1) = 0) => ?_) (fun (h19 : ¬ (r_ar c1) = 0) => ?_)
        · refine lv_iinc (v := nI (k + 1)) (lv' := [(1, .int (nI (k + 1))), (0, .ref (b 0))]) hx hb dX2_go_46 hl (k := 1) rfl (nI_add k 1) (by decide) rfl (fun ls hl => ?_)
          refine lv_goto (tgt := 2) hx hb dX2_go_49 (by decide) ?_
          have es : stepR k d = (true, c1) := (by show endR (oneR _ _ _ d) = _; rw [hc1]; unfold endR; rw [if_pos h19])
          exact ih2 (k + 1) c1 _ _ _ (by show _ ≤ r_ac c1; omega) (by show r_ac c1 + 1 ≤ _; omega) hO1 (by rw [hE, goR_t (by omega) (by rw [es]), es]; show goR (r_ac d - k - 1) (k + 1) _ = goR (r_ac c1 - (k + 1)) (k + 1) _; rw [hac1, show r_ac d - k - 1 = r_ac d - (k + 1) by omega]) hP hD hS (lv_sub hl [1, 0] rfl)
        · refine lv_aload_n hx hb dX2_go_22 rfl (lv_at hl 0 rfl) ?_
          refine lv_dup hx hb dX2_go_23 rfl ?_
          refine rg_ar hx hb hts hinX2 hown hK hP (hts (.fieldLink RX2 68 "FencedWordsModel" "armed" "I") (List.mem_of_getElem? (i := 2) rfl)) dX2_go_24 ?_
          refine lv_iconst (v := nI 1) hx hb dX2_go_27 (by decide) ?_
          refine q_isub hx hb (show 1 ≤ (r_ar c1) by omega) dX2_go_28 ?_
          refine rp_ar (v := (r_ar c1) - 1) hx hb hts hinX2 hown hK hP hD hS (hts (.fieldLink RX2 68 "FencedWordsModel" "armed" "I") (List.mem_of_getElem? (i := 2) rfl)) dX2_go_29 (fun H locs hP hD hS => ?_)
          refine lv_aload_n hx hb dX2_go_32 rfl (lv_at hl 0 rfl) ?_
          refine rg_ar hx hb hts hinX2 hown hK hP (hts (.fieldLink RX2 68 "FencedWordsModel" "armed" "I") (List.mem_of_getElem? (i := 2) rfl)) dX2_go_33 ?_
          refine q_if_ne (tgt := 46) hx hb (show ((r_ar c1) - 1) < 2 ^ 31 by omega) dX2_go_36 (by decide) (fun (h36 : ¬ ((r_ar c1) - 1) = 0) => ?_) (fun (h36 : ((r_ar c1) - 1) = 0) => ?_)
          · refine lv_iinc (v := nI (k + 1)) (lv' := [(1, .int (nI (k + 1))), (0, .ref (b 0))]) hx hb dX2_go_46 hl (k := 1) rfl (nI_add k 1) (by decide) rfl (fun ls hl => ?_)
            refine lv_goto (tgt := 2) hx hb dX2_go_49 (by decide) ?_
            have es : stepR k d = (true, rs_ar c1 ((r_ar c1) - 1)) := (by show endR (oneR _ _ _ d) = _; rw [hc1]; unfold endR; rw [if_neg h19, if_neg h36])
            exact ih2 (k + 1) (rs_ar c1 ((r_ar c1) - 1)) _ _ _ (by show _ ≤ r_ac c1; omega) (by show r_ac c1 + 1 ≤ _; omega) (AOK_end hO1 _ (by omega)) (by rw [hE, goR_t (by omega) (by rw [es]), es]; show goR (r_ac d - k - 1) (k + 1) _ = goR (r_ac c1 - (k + 1)) (k + 1) _; rw [hac1, show r_ac d - k - 1 = r_ac d - (k + 1) by omega]) hP hD hS (lv_sub hl [1, 0] rfl)
          · refine lv_aload_n hx hb dX2_go_39 rfl (lv_at hl 0 rfl) ?_
            refine callVv (rest := []) ⟨hx, hb, hml, hown, hts⟩ (mX2_fail l y t b (rs_ar c1 ((r_ar c1) - 1)) hzf hstf) (cwV 0 hts gX2_go_X2_fail rfl rfl rfl (by decide +kernel) ⟨Nat.le_of_ble_eq_true rfl, Nat.le_of_ble_eq_true rfl⟩) (va_recv hK hP (ci := 2) (q0 := 0) rfl rfl) hK hP hD hS hA hN rfl hl.1 rfl (Nat.le_of_ble_eq_true rfl) dX2_go_40 ⟨Nat.le_of_ble_eq_true rfl, Nat.le_of_ble_eq_true rfl⟩ (fun H locs hP hD hS => ?_)
            generalize hc2 : failR (rs_ar c1 ((r_ar c1) - 1)) = c2 at hP hD
            have hP : va_P D vwCl (wR b y c2 t) H := hP
            have hD : va_D A (wR b y c2 t) := hD
            have es : stepR k d = (false, failR (rs_ar c1 (r_ar c1 - 1))) := (by show endR (oneR _ _ _ d) = _; rw [hc1]; unfold endR; rw [if_neg h19, if_pos h36])
            refine lv_bipush (v := (-2)) hx hb dX2_go_43 (by decide) ?_
            exact retGi hx hb hr hlocks hK hP hD hS dX2_go_45 (by rw [hE, goR_f (by omega) (by rw [es])]; rfl) (by rw [hE, goR_f (by omega) (by rw [es]), es, hc2])
  exact loop (r_ac r + 1) 0 r _ _ _ (by omega) (by omega) hO rfl hP hD hS (lv_sub hl [1, 0] rfl)
theorem in_X2_X2_taken : ∀ w ∈ wsX20, w ∈ wsX2_taken := fun w h => List.mem_cons_of_mem _ (List.mem_append_right _ (h))
set_option maxHeartbeats 400000 in
set_option maxRecDepth 100000 in
theorem mX2_taken (l : Launch) (y : Nat → ClassId) (t : va_W) (b : Nat → Nat) (r : RS) (hz : r_rc r ≤ 20) : MGi l yX2_taken wsX2_taken 0 0 [.ref (b 0)] (tyA y) (wR b y r t) (nI (takR r (r_rc r))) (wR b y r t) := by
  refine MGi.of (cc := cX2_taken) (maxL := 3) (by decide) rfl (Nat.le_of_ble_eq_true rfl) ?_
  intro D p e s m below meth c0 A ls hx hb hr hml hown hlocks hts hK hP hD hA hN hl hS
  have hl : lv_has ls 3 [(0, .ref (b 0))] := hl
  have hinX2 : ∀ w ∈ u_ws RX2 TX2 19, w ∈ wsX2_taken := in_X2_X2_taken
  refine lv_iconst (v := nI 0) hx hb dX2_taken_0 (by decide) ?_
  refine lv_istore_n (lv' := [(1, .int (nI 0)), (0, .ref (b 0))]) hx hb dX2_taken_1 rfl hl (by decide) rfl (fun ls hl => ?_)
  refine lv_iconst (v := nI 0) hx hb dX2_taken_2 (by decide) ?_
  refine lv_istore_n (lv' := [(2, .int (nI 0)), (1, .int (nI 0)), (0, .ref (b 0))]) hx hb dX2_taken_3 rfl hl (by decide) rfl (fun ls hl => ?_)
  have loop : ∀ (n4 : Nat) (i : Nat) (H : Heap) (locs : List Loc) (ls : Array Slot), (i ≤ r_rc r) → (r_rc r + 1 ≤ i + n4) → va_P D vwCl (wR b y r t) H → va_D A (wR b y r t) → va_S A s.heap H locs → lv_has ls 3 [(0, .ref (b 0)), (1, .int (nI (takR r i))), (2, .int (nI i))] → W p l e ({ frames := 0, cells := 0, slots := 0, locals := 0 }) s m [.ref (b 0)].toArray below meth c0 H locs 0 0 (GQi below D (tyA y) A (nI (takR r (r_rc r))) (wR b y r t) [.ref (b 0)].toArray s) (F0 m 4 ls []) := by
    intro n4
    induction n4 with
    | zero =>
      intro i H locs ls hi hn hP hD hS hl
      omega
    | succ n4 ih4 =>
      intro i H locs ls hi hn hP hD hS hl
      refine lv_iload_n hx hb dX2_taken_4 rfl (lv_at hl 2 rfl) ?_
      refine lv_aload_n hx hb dX2_taken_5 rfl (lv_at hl 0 rfl) ?_
      refine rg_rc hx hb hts hinX2 hown hK hP (hts (.fieldLink RX2 52 "FencedWordsModel" "records" "I") (List.mem_of_getElem? (i := 1) rfl)) dX2_taken_6 ?_
      refine q_icmp_ge (tgt := 29) hx hb (show i < 2 ^ 31 by omega) (show (r_rc r) < 2 ^ 31 by omega) dX2_taken_9 (by decide) (fun (h9 : (r_rc r) ≤ i) => ?_) (fun (h9 : i < (r_rc r)) => ?_)
      · refine lv_iload_n hx hb dX2_taken_29 rfl (lv_at hl 1 rfl) ?_
        exact retGi hx hb hr hlocks hK hP hD hS dX2_taken_30 (by rw [show i = r_rc r by omega]) rfl
      · refine lv_iload_n hx hb dX2_taken_12 rfl (lv_at hl 1 rfl) ?_
        refine lv_aload_n hx hb dX2_taken_13 rfl (lv_at hl 0 rfl) ?_
        refine rg_r5 hx hb hts hinX2 hown hK hP (hts (.fieldLink RX2 24 "FencedWordsModel" "many" "[I") (List.mem_of_getElem? (i := 2) rfl)) dX2_taken_14 ?_
        refine lv_iload_n hx hb dX2_taken_17 rfl (lv_at hl 2 rfl) ?_
        refine rl_ma hx hb hK hP (show i < 20 by omega) dX2_taken_18 ?_
        refine lv_iconst (v := nI 1) hx hb dX2_taken_19 (by decide) ?_
        refine q_iadd hx hb dX2_taken_20 ?_
        refine q_iadd hx hb dX2_taken_21 ?_
        refine lv_istore_n (lv' := [(1, .int (nI ((takR r i) + ((r_ma r i) + 1)))), (0, .ref (b 0)), (2, .int (nI i))]) hx hb dX2_taken_22 rfl hl (by decide) rfl (fun ls hl => ?_)
        refine lv_iinc (v := nI (i + 1)) (lv' := [(2, .int (nI (i + 1))), (1, .int (nI ((takR r i) + ((r_ma r i) + 1)))), (0, .ref (b 0))]) hx hb dX2_taken_23 hl (k := 2) rfl (nI_add i 1) (by decide) rfl (fun ls hl => ?_)
        refine lv_goto (tgt := 4) hx hb dX2_taken_26 (by decide) ?_
        exact ih4 (i + 1) _ _ _ (by omega) (by omega) hP hD hS (lv_sub hl [2, 1, 0] rfl)
  exact loop (r_rc r + 1) 0 _ _ _ (by omega) (by omega) hP hD hS (lv_sub hl [2, 1, 0] rfl)
theorem in_X2_X2_covered : ∀ w ∈ wsX20, w ∈ wsX2_covered := fun w h => List.mem_cons_of_mem _ (List.mem_append_right _ (h))
set_option maxHeartbeats 400000 in
set_option maxRecDepth 100000 in
theorem mX2_covered (l : Launch) (y : Nat → ClassId) (t : va_W) (b : Nat → Nat) (r : RS) (k : Nat) (hk : k < 32) (hz : r_rc r ≤ 20) (hf : ∀ q, q < r_rc r → r_fi r q + r_ma r q ≤ 32) : MGi l yX2_covered wsX2_covered 0 0 [.ref (b 0), .int (nI k)] (tyA y) (wR b y r t) (bI (covR r k)) (wR b y r t) := by
  refine MGi.of (cc := cX2_covered) (maxL := 4) (by decide) rfl (Nat.le_of_ble_eq_true rfl) ?_
  intro D p e s m below meth c0 A ls hx hb hr hml hown hlocks hts hK hP hD hA hN hl hS
  have hl : lv_has ls 4 [(0, .ref (b 0)), (1, .int (nI k))] := hl
  have hinX2 : ∀ w ∈ u_ws RX2 TX2 19, w ∈ wsX2_covered := in_X2_X2_covered
  refine lv_iconst (v := nI 0) hx hb dX2_covered_0 (by decide) ?_
  refine lv_istore_n (lv' := [(2, .int (nI 0)), (0, .ref (b 0)), (1, .int (nI k))]) hx hb dX2_covered_1 rfl hl (by decide) rfl (fun ls hl => ?_)
  refine lv_iconst (v := nI 0) hx hb dX2_covered_2 (by decide) ?_
  refine lv_istore_n (lv' := [(3, .int (nI 0)), (2, .int (nI 0)), (0, .ref (b 0)), (1, .int (nI k))]) hx hb dX2_covered_3 rfl hl (by decide) rfl (fun ls hl => ?_)
  have loop : ∀ (n4 : Nat) (i : Nat) (H : Heap) (locs : List Loc) (ls : Array Slot), (i ≤ r_rc r) → (r_rc r + 1 ≤ i + n4) → va_P D vwCl (wR b y r t) H → va_D A (wR b y r t) → va_S A s.heap H locs → lv_has ls 4 [(0, .ref (b 0)), (1, .int (nI k)), (2, .int (bI (anyTo (covQ r k) i))), (3, .int (nI i))] → W p l e ({ frames := 0, cells := 0, slots := 0, locals := 0 }) s m [.ref (b 0), .int (nI k)].toArray below meth c0 H locs 0 0 (GQi below D (tyA y) A (bI (covR r k)) (wR b y r t) [.ref (b 0), .int (nI k)].toArray s) (F0 m 4 ls []) := by
    intro n4
    induction n4 with
    | zero =>
      intro i H locs ls hi hn hP hD hS hl
      omega
    | succ n4 ih4 =>
      intro i H locs ls hi hn hP hD hS hl
      refine lv_iload_n hx hb dX2_covered_4 rfl (lv_at hl 3 rfl) ?_
      refine lv_aload_n hx hb dX2_covered_5 rfl (lv_at hl 0 rfl) ?_
      refine rg_rc hx hb hts hinX2 hown hK hP (hts (.fieldLink RX2 52 "FencedWordsModel" "records" "I") (List.mem_of_getElem? (i := 1) rfl)) dX2_covered_6 ?_
      refine q_icmp_ge (tgt := 55) hx hb (show i < 2 ^ 31 by omega) (show (r_rc r) < 2 ^ 31 by omega) dX2_covered_9 (by decide) (fun (h9 : (r_rc r) ≤ i) => ?_) (fun (h9 : i < (r_rc r)) => ?_)
      · refine lv_iload_n hx hb dX2_covered_55 rfl (lv_at hl 2 rfl) ?_
        exact retGz hx hb hr hlocks hK hP hD hS dX2_covered_56 (by rw [show i = r_rc r by omega]; rfl) rfl
      · have hfi := hf i h9
        refine lv_iload_n hx hb dX2_covered_12 rfl (lv_at hl 2 rfl) ?_
        refine q_ifb_ne (tgt := 43) hx hb dX2_covered_13 (by decide) (fun (h13 : (anyTo (covQ r k) i) = true) => ?_) (fun (h13 : (anyTo (covQ r k) i) = false) => ?_)
        · refine lv_iconst (v := nI 1) hx hb dX2_covered_43 (by decide) ?_
          refine lv_goto (tgt := 48) hx hb dX2_covered_44 (by decide) ?_
          refine lv_istore_n (lv' := [(2, .int (nI 1)), (0, .ref (b 0)), (1, .int (nI k)), (3, .int (nI i))]) hx hb dX2_covered_48 rfl hl (by decide) rfl (fun ls hl => ?_)
          refine lv_iinc (v := nI (i + 1)) (lv' := [(3, .int (nI (i + 1))), (2, .int (nI 1)), (0, .ref (b 0)), (1, .int (nI k))]) hx hb dX2_covered_49 hl (k := 3) rfl (nI_add i 1) (by decide) rfl (fun ls hl => ?_)
          refine lv_goto (tgt := 4) hx hb dX2_covered_52 (by decide) ?_
          have eb : anyTo (covQ r k) (i + 1) = true := (by simp [anyTo, h13])
          have eq : nI 1 = bI (anyTo (covQ r k) (i + 1)) := (by rw [eb]; rfl)
          rw [eq] at hl
          exact ih4 (i + 1) _ _ _ (by omega) (by omega) hP hD hS (lv_sub hl [2, 3, 1, 0] rfl)
        · refine lv_iload_n hx hb dX2_covered_16 rfl (lv_at hl 1 rfl) ?_
          refine lv_aload_n hx hb dX2_covered_17 rfl (lv_at hl 0 rfl) ?_
          refine rg_r4 hx hb hts hinX2 hown hK hP (hts (.fieldLink RX2 20 "FencedWordsModel" "first" "[I") (List.mem_of_getElem? (i := 2) rfl)) dX2_covered_18 ?_
          refine lv_iload_n hx hb dX2_covered_21 rfl (lv_at hl 3 rfl) ?_
          refine rl_fi hx hb hK hP (show i < 20 by omega) dX2_covered_22 ?_
          refine q_icmp_lt (tgt := 47) hx hb (show k < 2 ^ 31 by omega) (show (r_fi r i) < 2 ^ 31 by omega) dX2_covered_23 (by decide) (fun (h23 : k < (r_fi r i)) => ?_) (fun (h23 : (r_fi r i) ≤ k) => ?_)
          · refine lv_iconst (v := nI 0) hx hb dX2_covered_47 (by decide) ?_
            refine lv_istore_n (lv' := [(2, .int (nI 0)), (0, .ref (b 0)), (1, .int (nI k)), (3, .int (nI i))]) hx hb dX2_covered_48 rfl hl (by decide) rfl (fun ls hl => ?_)
            refine lv_iinc (v := nI (i + 1)) (lv' := [(3, .int (nI (i + 1))), (2, .int (nI 0)), (0, .ref (b 0)), (1, .int (nI k))]) hx hb dX2_covered_49 hl (k := 3) rfl (nI_add i 1) (by decide) rfl (fun ls hl => ?_)
            refine lv_goto (tgt := 4) hx hb dX2_covered_52 (by decide) ?_
            have eb : anyTo (covQ r k) (i + 1) = false := (by have q : covQ r k i = false := (by simp [covQ]; omega); simp [anyTo, h13, q])
            have eq : nI 0 = bI (anyTo (covQ r k) (i + 1)) := (by rw [eb]; rfl)
            rw [eq] at hl
            exact ih4 (i + 1) _ _ _ (by omega) (by omega) hP hD hS (lv_sub hl [2, 3, 1, 0] rfl)
          · refine lv_iload_n hx hb dX2_covered_26 rfl (lv_at hl 1 rfl) ?_
            refine lv_aload_n hx hb dX2_covered_27 rfl (lv_at hl 0 rfl) ?_
            refine rg_r4 hx hb hts hinX2 hown hK hP (hts (.fieldLink RX2 20 "FencedWordsModel" "first" "[I") (List.mem_of_getElem? (i := 2) rfl)) dX2_covered_28 ?_
            refine lv_iload_n hx hb dX2_covered_31 rfl (lv_at hl 3 rfl) ?_
            refine rl_fi hx hb hK hP (show i < 20 by omega) dX2_covered_32 ?_
            refine lv_aload_n hx hb dX2_covered_33 rfl (lv_at hl 0 rfl) ?_
            refine rg_r5 hx hb hts hinX2 hown hK hP (hts (.fieldLink RX2 24 "FencedWordsModel" "many" "[I") (List.mem_of_getElem? (i := 3) rfl)) dX2_covered_34 ?_
            refine lv_iload_n hx hb dX2_covered_37 rfl (lv_at hl 3 rfl) ?_
            refine rl_ma hx hb hK hP (show i < 20 by omega) dX2_covered_38 ?_
            refine q_iadd hx hb dX2_covered_39 ?_
            refine q_icmp_ge (tgt := 47) hx hb (show k < 2 ^ 31 by omega) (show ((r_fi r i) + (r_ma r i)) < 2 ^ 31 by omega) dX2_covered_40 (by decide) (fun (h40 : ((r_fi r i) + (r_ma r i)) ≤ k) => ?_) (fun (h40 : k < ((r_fi r i) + (r_ma r i))) => ?_)
            · refine lv_iconst (v := nI 0) hx hb dX2_covered_47 (by decide) ?_
              refine lv_istore_n (lv' := [(2, .int (nI 0)), (0, .ref (b 0)), (1, .int (nI k)), (3, .int (nI i))]) hx hb dX2_covered_48 rfl hl (by decide) rfl (fun ls hl => ?_)
              refine lv_iinc (v := nI (i + 1)) (lv' := [(3, .int (nI (i + 1))), (2, .int (nI 0)), (0, .ref (b 0)), (1, .int (nI k))]) hx hb dX2_covered_49 hl (k := 3) rfl (nI_add i 1) (by decide) rfl (fun ls hl => ?_)
              refine lv_goto (tgt := 4) hx hb dX2_covered_52 (by decide) ?_
              have eb : anyTo (covQ r k) (i + 1) = false := (by have q : covQ r k i = false := (by simp [covQ]; omega); simp [anyTo, h13, q])
              have eq : nI 0 = bI (anyTo (covQ r k) (i + 1)) := (by rw [eb]; rfl)
              rw [eq] at hl
              exact ih4 (i + 1) _ _ _ (by omega) (by omega) hP hD hS (lv_sub hl [2, 3, 1, 0] rfl)
            · refine lv_iconst (v := nI 1) hx hb dX2_covered_43 (by decide) ?_
              refine lv_goto (tgt := 48) hx hb dX2_covered_44 (by decide) ?_
              refine lv_istore_n (lv' := [(2, .int (nI 1)), (0, .ref (b 0)), (1, .int (nI k)), (3, .int (nI i))]) hx hb dX2_covered_48 rfl hl (by decide) rfl (fun ls hl => ?_)
              refine lv_iinc (v := nI (i + 1)) (lv' := [(3, .int (nI (i + 1))), (2, .int (nI 1)), (0, .ref (b 0)), (1, .int (nI k))]) hx hb dX2_covered_49 hl (k := 3) rfl (nI_add i 1) (by decide) rfl (fun ls hl => ?_)
              refine lv_goto (tgt := 4) hx hb dX2_covered_52 (by decide) ?_
              have eb : anyTo (covQ r k) (i + 1) = true := (by have q : covQ r k i = true := (by simp [covQ]; omega); simp [anyTo, q])
              have eq : nI 1 = bI (anyTo (covQ r k) (i + 1)) := (by rw [eb]; rfl)
              rw [eq] at hl
              exact ih4 (i + 1) _ _ _ (by omega) (by omega) hP hD hS (lv_sub hl [2, 3, 1, 0] rfl)
  have hl : lv_has ls 4 [(3, .int (nI 0)), (2, .int (bI (anyTo (covQ r k) 0))), (0, .ref (b 0)), (1, .int (nI k))] := hl
  exact loop (r_rc r + 1) 0 _ _ _ (by omega) (by omega) hP hD hS (lv_sub hl [2, 3, 1, 0] rfl)
