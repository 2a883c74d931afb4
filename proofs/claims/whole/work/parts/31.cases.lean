theorem RA_0 : RA cs0 rs0 := by
  refine ⟨⟨⟨fun _ _ => rfl, fun _ _ => rfl, rfl, fun k _ => hb_0 k, fun k _ => hb_0 k, fun k _ _ => hb_0 k, rfl, Nat.zero_le _, rfl, by decide⟩, ⟨fun q hq => absurd hq (Nat.not_lt_zero q), Nat.zero_le _, Nat.zero_le _⟩, rfl, rfl, rfl, rfl, fun q hq => absurd hq (Nat.not_lt_zero q), fun _ => Nat.zero_le _⟩, rfl⟩
theorem wC_y {a : Nat → Nat} {y1 y2 : Nat → ClassId} {c : CS} {t : va_W} (h0 : y1 0 = y2 0) (h1 : y1 1 = y2 1) : wC a y1 c t = wC a y2 c t := by
  unfold wC
  rw [h0, h1]
theorem law_go {L i : Nat} (hL : L ≤ 2048) (hi : i ≤ L) : nI L - nI 4 < nI i ↔ L < i + 4 := by
  rw [Int32.lt_iff_toInt_lt, pk_sub_toInt (by omega) (by omega), nI_toInt (by omega)]
  omega
set_option maxHeartbeats 1000000 in
set_option maxRecDepth 100000 in
theorem law_0 {p : Program} {l : Launch} {e : Env} {s : State} {m : MethodId} {below : List Frame} {meth : Method} {c0 : Code} {D : va_G} {b0 L : Nat} {xs : Nat → Int32} (hL : L ≤ 2048) (C0 : lw_At p s m meth c0 b0 L xs) {a b : Nat → Nat} {y : Nat → ClassId} (hK : va_K D vwCl (tyA y) s) (hN : nwA s) {i : Nat} {c : CS} {r : RS} {ls : Array Slot} (hi : i + 4 ≤ L) (hR : RA c r) (hl : lv_has ls 4 [(0, .ref b0), (1, .ref (a 0)), (2, .ref (b 0)), (3, .int (nI i))]) (k : ∀ (c1 : CS) (r1 : RS), RA c1 r1 → ∀ (H : Heap) (locs : List Loc), va_P D vwCl (wC a y c1 (wR b y r1 [])) H → va_D (fun q : Nat => s.heap.size ≤ q) (wC a y c1 (wR b y r1 [])) → va_S (fun q : Nat => s.heap.size ≤ q) s.heap H locs → W p l e room_1 s m #[Value.ref b0] below meth c0 H locs 21 585 (lw_Z below #[Value.ref b0] s) (F0 m 428 ls [])) : ∀ (H : Heap) (locs : List Loc), va_P D vwCl (wC a y c (wR b y r [])) H → va_D (fun q : Nat => s.heap.size ≤ q) (wC a y c (wR b y r [])) → va_S (fun q : Nat => s.heap.size ≤ q) s.heap H locs → W p l e room_1 s m #[Value.ref b0] below meth c0 H locs 21 585 (lw_Z below #[Value.ref b0] s) (F0 m 104 ls []) := by
  obtain ⟨hx, hb, hr, hml, hown, hts0, hX, hbl, hlocks, hgv⟩ := C0
  have hown : s.vm.findClass RL = some m.cls := hown
  have hts : ∀ w ∈ wsL_law, w.before #[Value.ref b0] s = true := fun w h => hts0 w (wsL_law_in w h)
  have hA : ∀ q : Nat, s.heap.size ≤ q → (fun q : Nat => s.heap.size ≤ q) q := fun _ h => h
  have hbA : ¬ (fun q : Nat => s.heap.size ≤ q) b0 := Nat.not_le.mpr hbl
  intro H locs hP hD hS
  obtain ⟨hF, hnk, ht, h2z, hI⟩ := RN_SF hR.1
  refine lv_aload_n hx hb dL_law_104 rfl (lv_at hl 1 rfl) ?_
  refine lv_aload_n hx hb dL_law_105 rfl (lv_at hl 0 rfl) ?_
  refine lv_iload_n hx hb dL_law_106 rfl (lv_at hl 3 rfl) ?_
  refine lv_iconst (v := nI 1) hx hb dL_law_107 (by decide) ?_
  refine q_iadd hx hb dL_law_108 ?_
  refine va_sld hx hb hX hbl hbA hS (vp_in_nI (show i + 1 < L by omega) (by omega)) dL_law_109 ?_
  rw [nI_clamp (n := i + 1) (by omega)]
  refine lv_aload_n hx hb dL_law_110 rfl (lv_at hl 0 rfl) ?_
  refine lv_iload_n hx hb dL_law_111 rfl (lv_at hl 3 rfl) ?_
  refine lv_iconst (v := nI 2) hx hb dL_law_112 (by decide) ?_
  refine q_iadd hx hb dL_law_113 ?_
  refine va_sld hx hb hX hbl hbA hS (vp_in_nI (show i + 2 < L by omega) (by omega)) dL_law_114 ?_
  rw [nI_clamp (n := i + 2) (by omega)]
  refine lv_i2l hx hb dL_law_115 rfl ?_
  refine lv_bipush (v := nI 32) hx hb dL_law_116 (by decide) ?_
  refine lv_lshl hx hb dL_law_118 rfl ?_
  refine lv_aload_n hx hb dL_law_119 rfl (lv_at hl 0 rfl) ?_
  refine lv_iload_n hx hb dL_law_120 rfl (lv_at hl 3 rfl) ?_
  refine lv_iconst (v := nI 3) hx hb dL_law_121 (by decide) ?_
  refine q_iadd hx hb dL_law_122 ?_
  refine va_sld hx hb hX hbl hbA hS (vp_in_nI (show i + 3 < L by omega) (by omega)) dL_law_123 ?_
  rw [nI_clamp (n := i + 3) (by omega)]
  refine lv_i2l hx hb dL_law_124 rfl ?_
  refine lv_ldc2 hx hb hown (hts (.constantLong RL 13 (4294967295)) (List.mem_of_getElem? (i := 6) rfl)) dL_law_125 ?_
  refine lv_land hx hb dL_law_128 ?_
  refine lv_lor hx hb dL_law_129 ?_
  refine callVi (rest := []) ⟨hx, hb, hml, hown, hts⟩ (mX1_arm l y (wR b y r []) a c (xs (i + 1)) ((((xs (i + 2)).toInt64) <<< ((nI 32).toInt64 &&& 63)) ||| (((xs (i + 3)).toInt64) &&& 4294967295)) ) (cwV 2 hts gL_law_X1_arm rfl rfl rfl (by decide +kernel) ⟨Nat.le_of_ble_eq_true rfl, Nat.le_of_ble_eq_true rfl⟩) (va_recv hK hP (ci := 1) (q0 := 0) rfl rfl) hK hP hD hS hA hN rfl hl.1 rfl (Nat.le_of_ble_eq_true rfl) dL_law_130 ⟨Nat.le_of_ble_eq_true rfl, Nat.le_of_ble_eq_true rfl⟩ (fun H locs hP hD hS => ?_)
  refine lv_aload_n hx hb dL_law_133 rfl (lv_at hl 2 rfl) ?_
  refine lv_aload_n hx hb dL_law_134 rfl (lv_at hl 0 rfl) ?_
  refine lv_iload_n hx hb dL_law_135 rfl (lv_at hl 3 rfl) ?_
  refine lv_iconst (v := nI 1) hx hb dL_law_136 (by decide) ?_
  refine q_iadd hx hb dL_law_137 ?_
  refine va_sld hx hb hX hbl hbA hS (vp_in_nI (show i + 1 < L by omega) (by omega)) dL_law_138 ?_
  rw [nI_clamp (n := i + 1) (by omega)]
  refine lv_aload_n hx hb dL_law_139 rfl (lv_at hl 0 rfl) ?_
  refine lv_iload_n hx hb dL_law_140 rfl (lv_at hl 3 rfl) ?_
  refine lv_iconst (v := nI 2) hx hb dL_law_141 (by decide) ?_
  refine q_iadd hx hb dL_law_142 ?_
  refine va_sld hx hb hX hbl hbA hS (vp_in_nI (show i + 2 < L by omega) (by omega)) dL_law_143 ?_
  rw [nI_clamp (n := i + 2) (by omega)]
  refine lv_i2l hx hb dL_law_144 rfl ?_
  refine lv_bipush (v := nI 32) hx hb dL_law_145 (by decide) ?_
  refine lv_lshl hx hb dL_law_147 rfl ?_
  refine lv_aload_n hx hb dL_law_148 rfl (lv_at hl 0 rfl) ?_
  refine lv_iload_n hx hb dL_law_149 rfl (lv_at hl 3 rfl) ?_
  refine lv_iconst (v := nI 3) hx hb dL_law_150 (by decide) ?_
  refine q_iadd hx hb dL_law_151 ?_
  refine va_sld hx hb hX hbl hbA hS (vp_in_nI (show i + 3 < L by omega) (by omega)) dL_law_152 ?_
  rw [nI_clamp (n := i + 3) (by omega)]
  refine lv_i2l hx hb dL_law_153 rfl ?_
  refine lv_ldc2 hx hb hown (hts (.constantLong RL 13 (4294967295)) (List.mem_of_getElem? (i := 6) rfl)) dL_law_154 ?_
  refine lv_land hx hb dL_law_157 ?_
  refine lv_lor hx hb dL_law_158 ?_
  have hPm := hP.sub (ws' := wR b y r (wC a y ((armF (xs (i + 1)) ((((xs (i + 2)).toInt64) <<< ((nI 32).toInt64 &&& 63)) ||| (((xs (i + 3)).toInt64) &&& 4294967295)) c).2) [])) [8, 9, 10, 11, 12, 13, 14, 15, 16, 17, 18, 19, 20, 0, 1, 2, 3, 4, 5, 6, 7] rfl
  have hDm := hD.sub (ws' := wR b y r (wC a y ((armF (xs (i + 1)) ((((xs (i + 2)).toInt64) <<< ((nI 32).toInt64 &&& 63)) ||| (((xs (i + 3)).toInt64) &&& 4294967295)) c).2) [])) [8, 9, 10, 11, 12, 13, 14, 15, 16, 17, 18, 19, 20, 0, 1, 2, 3, 4, 5, 6, 7] (by decide) rfl
  refine callVi (rest := [.int (bI ((armF (xs (i + 1)) ((((xs (i + 2)).toInt64) <<< ((nI 32).toInt64 &&& 63)) ||| (((xs (i + 3)).toInt64) &&& 4294967295)) c).1))]) ⟨hx, hb, hml, hown, hts⟩ (mX2_arm l y (wC a y ((armF (xs (i + 1)) ((((xs (i + 2)).toInt64) <<< ((nI 32).toInt64 &&& 63)) ||| (((xs (i + 3)).toInt64) &&& 4294967295)) c).2) []) b r (xs (i + 1)) ((((xs (i + 2)).toInt64) <<< ((nI 32).toInt64 &&& 63)) ||| (((xs (i + 3)).toInt64) &&& 4294967295)) ) (cwV 2 hts gL_law_X2_arm rfl rfl rfl (by decide +kernel) ⟨Nat.le_of_ble_eq_true rfl, Nat.le_of_ble_eq_true rfl⟩) (va_recv hK hPm (ci := 2) (q0 := 0) rfl rfl) hK hPm hDm hS hA hN rfl hl.1 rfl (Nat.le_of_ble_eq_true rfl) dL_law_159 ⟨Nat.le_of_ble_eq_true rfl, Nat.le_of_ble_eq_true rfl⟩ (fun H locs hPm hDm hS => ?_)
  have hP := hPm.sub (ws' := wC a y ((armF (xs (i + 1)) ((((xs (i + 2)).toInt64) <<< ((nI 32).toInt64 &&& 63)) ||| (((xs (i + 3)).toInt64) &&& 4294967295)) c).2) (wR b y ((armR (xs (i + 1)) ((((xs (i + 2)).toInt64) <<< ((nI 32).toInt64 &&& 63)) ||| (((xs (i + 3)).toInt64) &&& 4294967295)) r).2) [])) [13, 14, 15, 16, 17, 18, 19, 20, 0, 1, 2, 3, 4, 5, 6, 7, 8, 9, 10, 11, 12] rfl
  have hD := hDm.sub (ws' := wC a y ((armF (xs (i + 1)) ((((xs (i + 2)).toInt64) <<< ((nI 32).toInt64 &&& 63)) ||| (((xs (i + 3)).toInt64) &&& 4294967295)) c).2) (wR b y ((armR (xs (i + 1)) ((((xs (i + 2)).toInt64) <<< ((nI 32).toInt64 &&& 63)) ||| (((xs (i + 3)).toInt64) &&& 4294967295)) r).2) [])) [13, 14, 15, 16, 17, 18, 19, 20, 0, 1, 2, 3, 4, 5, 6, 7, 8, 9, 10, 11, 12] (by decide) rfl
  refine lv_icmp_eq (tgt := 428) hx hb dL_law_162 (by decide) (fun _ => ?_) (fun h => absurd (by rw [(f_arm (xs (i + 1)) ((((xs (i + 2)).toInt64) <<< ((nI 32).toInt64 &&& 63)) ||| (((xs (i + 3)).toInt64) &&& 4294967295)) hR).1]) h)
  exact k ((armF (xs (i + 1)) ((((xs (i + 2)).toInt64) <<< ((nI 32).toInt64 &&& 63)) ||| (((xs (i + 3)).toInt64) &&& 4294967295)) c).2) ((armR (xs (i + 1)) ((((xs (i + 2)).toInt64) <<< ((nI 32).toInt64 &&& 63)) ||| (((xs (i + 3)).toInt64) &&& 4294967295)) r).2) (f_arm (xs (i + 1)) ((((xs (i + 2)).toInt64) <<< ((nI 32).toInt64 &&& 63)) ||| (((xs (i + 3)).toInt64) &&& 4294967295)) hR).2 H locs hP hD hS
set_option maxHeartbeats 1000000 in
set_option maxRecDepth 100000 in
theorem law_1 {p : Program} {l : Launch} {e : Env} {s : State} {m : MethodId} {below : List Frame} {meth : Method} {c0 : Code} {D : va_G} {b0 L : Nat} {xs : Nat → Int32} (hL : L ≤ 2048) (C0 : lw_At p s m meth c0 b0 L xs) {a b : Nat → Nat} {y : Nat → ClassId} (hK : va_K D vwCl (tyA y) s) (hN : nwA s) {i : Nat} {c : CS} {r : RS} {ls : Array Slot} (hi : i + 4 ≤ L) (hR : RA c r) (hl : lv_has ls 4 [(0, .ref b0), (1, .ref (a 0)), (2, .ref (b 0)), (3, .int (nI i))]) (k : ∀ (c1 : CS) (r1 : RS), RA c1 r1 → ∀ (H : Heap) (locs : List Loc), va_P D vwCl (wC a y c1 (wR b y r1 [])) H → va_D (fun q : Nat => s.heap.size ≤ q) (wC a y c1 (wR b y r1 [])) → va_S (fun q : Nat => s.heap.size ≤ q) s.heap H locs → W p l e room_1 s m #[Value.ref b0] below meth c0 H locs 21 585 (lw_Z below #[Value.ref b0] s) (F0 m 428 ls [])) : ∀ (H : Heap) (locs : List Loc), va_P D vwCl (wC a y c (wR b y r [])) H → va_D (fun q : Nat => s.heap.size ≤ q) (wC a y c (wR b y r [])) → va_S (fun q : Nat => s.heap.size ≤ q) s.heap H locs → W p l e room_1 s m #[Value.ref b0] below meth c0 H locs 21 585 (lw_Z below #[Value.ref b0] s) (F0 m 167 ls []) := by
  obtain ⟨hx, hb, hr, hml, hown, hts0, hX, hbl, hlocks, hgv⟩ := C0
  have hown : s.vm.findClass RL = some m.cls := hown
  have hts : ∀ w ∈ wsL_law, w.before #[Value.ref b0] s = true := fun w h => hts0 w (wsL_law_in w h)
  have hA : ∀ q : Nat, s.heap.size ≤ q → (fun q : Nat => s.heap.size ≤ q) q := fun _ h => h
  have hbA : ¬ (fun q : Nat => s.heap.size ≤ q) b0 := Nat.not_le.mpr hbl
  intro H locs hP hD hS
  obtain ⟨hF, hnk, ht, h2z, hI⟩ := RN_SF hR.1
  refine lv_aload_n hx hb dL_law_167 rfl (lv_at hl 1 rfl) ?_
  refine callVi (rest := []) ⟨hx, hb, hml, hown, hts⟩ (mX1_begin l y (wR b y r []) a c  ) (cwV 0 hts gL_law_X1_begin rfl rfl rfl (by decide +kernel) ⟨Nat.le_of_ble_eq_true rfl, Nat.le_of_ble_eq_true rfl⟩) (va_recv hK hP (ci := 1) (q0 := 0) rfl rfl) hK hP hD hS hA hN rfl hl.1 rfl (Nat.le_of_ble_eq_true rfl) dL_law_168 ⟨Nat.le_of_ble_eq_true rfl, Nat.le_of_ble_eq_true rfl⟩ (fun H locs hP hD hS => ?_)
  refine lv_aload_n hx hb dL_law_171 rfl (lv_at hl 2 rfl) ?_
  have hPm := hP.sub (ws' := wR b y r (wC a y ((beginF c).2) [])) [8, 9, 10, 11, 12, 13, 14, 15, 16, 17, 18, 19, 20, 0, 1, 2, 3, 4, 5, 6, 7] rfl
  have hDm := hD.sub (ws' := wR b y r (wC a y ((beginF c).2) [])) [8, 9, 10, 11, 12, 13, 14, 15, 16, 17, 18, 19, 20, 0, 1, 2, 3, 4, 5, 6, 7] (by decide) rfl
  refine callVi (rest := [.int ((beginF c).1)]) ⟨hx, hb, hml, hown, hts⟩ (mX2_begin l y (wC a y ((beginF c).2) []) b r  ) (cwV 0 hts gL_law_X2_begin rfl rfl rfl (by decide +kernel) ⟨Nat.le_of_ble_eq_true rfl, Nat.le_of_ble_eq_true rfl⟩) (va_recv hK hPm (ci := 2) (q0 := 0) rfl rfl) hK hPm hDm hS hA hN rfl hl.1 rfl (Nat.le_of_ble_eq_true rfl) dL_law_172 ⟨Nat.le_of_ble_eq_true rfl, Nat.le_of_ble_eq_true rfl⟩ (fun H locs hPm hDm hS => ?_)
  have hP := hPm.sub (ws' := wC a y ((beginF c).2) (wR b y ((beginR r).2) [])) [13, 14, 15, 16, 17, 18, 19, 20, 0, 1, 2, 3, 4, 5, 6, 7, 8, 9, 10, 11, 12] rfl
  have hD := hDm.sub (ws' := wC a y ((beginF c).2) (wR b y ((beginR r).2) [])) [13, 14, 15, 16, 17, 18, 19, 20, 0, 1, 2, 3, 4, 5, 6, 7, 8, 9, 10, 11, 12] (by decide) rfl
  refine lv_icmp_eq (tgt := 428) hx hb dL_law_175 (by decide) (fun _ => ?_) (fun h => absurd (f_begin hR).1 h)
  exact k ((beginF c).2) ((beginR r).2) (f_begin hR).2 H locs hP hD hS
set_option maxHeartbeats 1000000 in
set_option maxRecDepth 100000 in
theorem law_2 {p : Program} {l : Launch} {e : Env} {s : State} {m : MethodId} {below : List Frame} {meth : Method} {c0 : Code} {D : va_G} {b0 L : Nat} {xs : Nat → Int32} (hL : L ≤ 2048) (C0 : lw_At p s m meth c0 b0 L xs) {a b : Nat → Nat} {y : Nat → ClassId} (hK : va_K D vwCl (tyA y) s) (hN : nwA s) {i : Nat} {c : CS} {r : RS} {ls : Array Slot} (hi : i + 4 ≤ L) (hR : RA c r) (hl : lv_has ls 4 [(0, .ref b0), (1, .ref (a 0)), (2, .ref (b 0)), (3, .int (nI i))]) (k : ∀ (c1 : CS) (r1 : RS), RA c1 r1 → ∀ (H : Heap) (locs : List Loc), va_P D vwCl (wC a y c1 (wR b y r1 [])) H → va_D (fun q : Nat => s.heap.size ≤ q) (wC a y c1 (wR b y r1 [])) → va_S (fun q : Nat => s.heap.size ≤ q) s.heap H locs → W p l e room_1 s m #[Value.ref b0] below meth c0 H locs 21 585 (lw_Z below #[Value.ref b0] s) (F0 m 428 ls [])) : ∀ (H : Heap) (locs : List Loc), va_P D vwCl (wC a y c (wR b y r [])) H → va_D (fun q : Nat => s.heap.size ≤ q) (wC a y c (wR b y r [])) → va_S (fun q : Nat => s.heap.size ≤ q) s.heap H locs → W p l e room_1 s m #[Value.ref b0] below meth c0 H locs 21 585 (lw_Z below #[Value.ref b0] s) (F0 m 180 ls []) := by
  obtain ⟨hx, hb, hr, hml, hown, hts0, hX, hbl, hlocks, hgv⟩ := C0
  have hown : s.vm.findClass RL = some m.cls := hown
  have hts : ∀ w ∈ wsL_law, w.before #[Value.ref b0] s = true := fun w h => hts0 w (wsL_law_in w h)
  have hA : ∀ q : Nat, s.heap.size ≤ q → (fun q : Nat => s.heap.size ≤ q) q := fun _ h => h
  have hbA : ¬ (fun q : Nat => s.heap.size ≤ q) b0 := Nat.not_le.mpr hbl
  intro H locs hP hD hS
  obtain ⟨hF, hnk, ht, h2z, hI⟩ := RN_SF hR.1
  refine lv_aload_n hx hb dL_law_180 rfl (lv_at hl 1 rfl) ?_
  refine lv_aload_n hx hb dL_law_181 rfl (lv_at hl 0 rfl) ?_
  refine lv_iload_n hx hb dL_law_182 rfl (lv_at hl 3 rfl) ?_
  refine lv_iconst (v := nI 1) hx hb dL_law_183 (by decide) ?_
  refine q_iadd hx hb dL_law_184 ?_
  refine va_sld hx hb hX hbl hbA hS (vp_in_nI (show i + 1 < L by omega) (by omega)) dL_law_185 ?_
  rw [nI_clamp (n := i + 1) (by omega)]
  refine lv_aload_n hx hb dL_law_186 rfl (lv_at hl 0 rfl) ?_
  refine lv_iload_n hx hb dL_law_187 rfl (lv_at hl 3 rfl) ?_
  refine lv_iconst (v := nI 2) hx hb dL_law_188 (by decide) ?_
  refine q_iadd hx hb dL_law_189 ?_
  refine va_sld hx hb hX hbl hbA hS (vp_in_nI (show i + 2 < L by omega) (by omega)) dL_law_190 ?_
  rw [nI_clamp (n := i + 2) (by omega)]
  refine callVi (rest := []) ⟨hx, hb, hml, hown, hts⟩ (mX1_snapshot l y (wR b y r []) a c (xs (i + 1)) (xs (i + 2)) hF ht h2z) (cwV 2 hts gL_law_X1_snapshot rfl rfl rfl (by decide +kernel) ⟨Nat.le_of_ble_eq_true rfl, Nat.le_of_ble_eq_true rfl⟩) (va_recv hK hP (ci := 1) (q0 := 0) rfl rfl) hK hP hD hS hA hN rfl hl.1 rfl (Nat.le_of_ble_eq_true rfl) dL_law_191 ⟨Nat.le_of_ble_eq_true rfl, Nat.le_of_ble_eq_true rfl⟩ (fun H locs hP hD hS => ?_)
  refine lv_aload_n hx hb dL_law_194 rfl (lv_at hl 2 rfl) ?_
  refine lv_aload_n hx hb dL_law_195 rfl (lv_at hl 0 rfl) ?_
  refine lv_iload_n hx hb dL_law_196 rfl (lv_at hl 3 rfl) ?_
  refine lv_iconst (v := nI 1) hx hb dL_law_197 (by decide) ?_
  refine q_iadd hx hb dL_law_198 ?_
  refine va_sld hx hb hX hbl hbA hS (vp_in_nI (show i + 1 < L by omega) (by omega)) dL_law_199 ?_
  rw [nI_clamp (n := i + 1) (by omega)]
  refine lv_aload_n hx hb dL_law_200 rfl (lv_at hl 0 rfl) ?_
  refine lv_iload_n hx hb dL_law_201 rfl (lv_at hl 3 rfl) ?_
  refine lv_iconst (v := nI 2) hx hb dL_law_202 (by decide) ?_
  refine q_iadd hx hb dL_law_203 ?_
  refine va_sld hx hb hX hbl hbA hS (vp_in_nI (show i + 2 < L by omega) (by omega)) dL_law_204 ?_
  rw [nI_clamp (n := i + 2) (by omega)]
  have hPm := hP.sub (ws' := wR b y r (wC a y ((snapF (xs (i + 1)) (xs (i + 2)) c).2) [])) [8, 9, 10, 11, 12, 13, 14, 15, 16, 17, 18, 19, 20, 0, 1, 2, 3, 4, 5, 6, 7] rfl
  have hDm := hD.sub (ws' := wR b y r (wC a y ((snapF (xs (i + 1)) (xs (i + 2)) c).2) [])) [8, 9, 10, 11, 12, 13, 14, 15, 16, 17, 18, 19, 20, 0, 1, 2, 3, 4, 5, 6, 7] (by decide) rfl
  refine callVi (rest := [.int ((snapF (xs (i + 1)) (xs (i + 2)) c).1)]) ⟨hx, hb, hml, hown, hts⟩ (mX2_snapshot l y (wC a y ((snapF (xs (i + 1)) (xs (i + 2)) c).2) []) b r (xs (i + 1)) (xs (i + 2)) hI) (cwV 2 hts gL_law_X2_snapshot rfl rfl rfl (by decide +kernel) ⟨Nat.le_of_ble_eq_true rfl, Nat.le_of_ble_eq_true rfl⟩) (va_recv hK hPm (ci := 2) (q0 := 0) rfl rfl) hK hPm hDm hS hA hN rfl hl.1 rfl (Nat.le_of_ble_eq_true rfl) dL_law_205 ⟨Nat.le_of_ble_eq_true rfl, Nat.le_of_ble_eq_true rfl⟩ (fun H locs hPm hDm hS => ?_)
  have hP := hPm.sub (ws' := wC a y ((snapF (xs (i + 1)) (xs (i + 2)) c).2) (wR b y ((snapX (xs (i + 1)) (xs (i + 2)) r).2) [])) [13, 14, 15, 16, 17, 18, 19, 20, 0, 1, 2, 3, 4, 5, 6, 7, 8, 9, 10, 11, 12] rfl
  have hD := hDm.sub (ws' := wC a y ((snapF (xs (i + 1)) (xs (i + 2)) c).2) (wR b y ((snapX (xs (i + 1)) (xs (i + 2)) r).2) [])) [13, 14, 15, 16, 17, 18, 19, 20, 0, 1, 2, 3, 4, 5, 6, 7, 8, 9, 10, 11, 12] (by decide) rfl
  refine lv_icmp_eq (tgt := 428) hx hb dL_law_208 (by decide) (fun _ => ?_) (fun h => absurd (f_snap (xs (i + 1)) (xs (i + 2)) hR).1 h)
  exact k ((snapF (xs (i + 1)) (xs (i + 2)) c).2) ((snapX (xs (i + 1)) (xs (i + 2)) r).2) (f_snap (xs (i + 1)) (xs (i + 2)) hR).2 H locs hP hD hS
set_option maxHeartbeats 1000000 in
set_option maxRecDepth 100000 in
theorem law_3 {p : Program} {l : Launch} {e : Env} {s : State} {m : MethodId} {below : List Frame} {meth : Method} {c0 : Code} {D : va_G} {b0 L : Nat} {xs : Nat → Int32} (hL : L ≤ 2048) (C0 : lw_At p s m meth c0 b0 L xs) {a b : Nat → Nat} {y : Nat → ClassId} (hK : va_K D vwCl (tyA y) s) (hN : nwA s) {i : Nat} {c : CS} {r : RS} {ls : Array Slot} (hi : i + 4 ≤ L) (hR : RA c r) (hl : lv_has ls 4 [(0, .ref b0), (1, .ref (a 0)), (2, .ref (b 0)), (3, .int (nI i))]) (k : ∀ (c1 : CS) (r1 : RS), RA c1 r1 → ∀ (H : Heap) (locs : List Loc), va_P D vwCl (wC a y c1 (wR b y r1 [])) H → va_D (fun q : Nat => s.heap.size ≤ q) (wC a y c1 (wR b y r1 [])) → va_S (fun q : Nat => s.heap.size ≤ q) s.heap H locs → W p l e room_1 s m #[Value.ref b0] below meth c0 H locs 21 585 (lw_Z below #[Value.ref b0] s) (F0 m 428 ls [])) : ∀ (H : Heap) (locs : List Loc), va_P D vwCl (wC a y c (wR b y r [])) H → va_D (fun q : Nat => s.heap.size ≤ q) (wC a y c (wR b y r [])) → va_S (fun q : Nat => s.heap.size ≤ q) s.heap H locs → W p l e room_1 s m #[Value.ref b0] below meth c0 H locs 21 585 (lw_Z below #[Value.ref b0] s) (F0 m 213 ls []) := by
  obtain ⟨hx, hb, hr, hml, hown, hts0, hX, hbl, hlocks, hgv⟩ := C0
  have hown : s.vm.findClass RL = some m.cls := hown
  have hts : ∀ w ∈ wsL_law, w.before #[Value.ref b0] s = true := fun w h => hts0 w (wsL_law_in w h)
  have hA : ∀ q : Nat, s.heap.size ≤ q → (fun q : Nat => s.heap.size ≤ q) q := fun _ h => h
  have hbA : ¬ (fun q : Nat => s.heap.size ≤ q) b0 := Nat.not_le.mpr hbl
  intro H locs hP hD hS
  obtain ⟨hF, hnk, ht, h2z, hI⟩ := RN_SF hR.1
  refine lv_aload_n hx hb dL_law_213 rfl (lv_at hl 1 rfl) ?_
  refine lv_aload_n hx hb dL_law_214 rfl (lv_at hl 0 rfl) ?_
  refine lv_iload_n hx hb dL_law_215 rfl (lv_at hl 3 rfl) ?_
  refine lv_iconst (v := nI 1) hx hb dL_law_216 (by decide) ?_
  refine q_iadd hx hb dL_law_217 ?_
  refine va_sld hx hb hX hbl hbA hS (vp_in_nI (show i + 1 < L by omega) (by omega)) dL_law_218 ?_
  rw [nI_clamp (n := i + 1) (by omega)]
  refine lv_aload_n hx hb dL_law_219 rfl (lv_at hl 0 rfl) ?_
  refine lv_iload_n hx hb dL_law_220 rfl (lv_at hl 3 rfl) ?_
  refine lv_iconst (v := nI 2) hx hb dL_law_221 (by decide) ?_
  refine q_iadd hx hb dL_law_222 ?_
  refine va_sld hx hb hX hbl hbA hS (vp_in_nI (show i + 2 < L by omega) (by omega)) dL_law_223 ?_
  rw [nI_clamp (n := i + 2) (by omega)]
  refine lv_i2l hx hb dL_law_224 rfl ?_
  refine lv_bipush (v := nI 32) hx hb dL_law_225 (by decide) ?_
  refine lv_lshl hx hb dL_law_227 rfl ?_
  refine lv_aload_n hx hb dL_law_228 rfl (lv_at hl 0 rfl) ?_
  refine lv_iload_n hx hb dL_law_229 rfl (lv_at hl 3 rfl) ?_
  refine lv_iconst (v := nI 3) hx hb dL_law_230 (by decide) ?_
  refine q_iadd hx hb dL_law_231 ?_
  refine va_sld hx hb hX hbl hbA hS (vp_in_nI (show i + 3 < L by omega) (by omega)) dL_law_232 ?_
  rw [nI_clamp (n := i + 3) (by omega)]
  refine lv_i2l hx hb dL_law_233 rfl ?_
  refine lv_ldc2 hx hb hown (hts (.constantLong RL 13 (4294967295)) (List.mem_of_getElem? (i := 6) rfl)) dL_law_234 ?_
  refine lv_land hx hb dL_law_237 ?_
  refine lv_lor hx hb dL_law_238 ?_
  refine callVi (rest := []) ⟨hx, hb, hml, hown, hts⟩ (mX1_store l y (wR b y r []) a c (xs (i + 1)) ((((xs (i + 2)).toInt64) <<< ((nI 32).toInt64 &&& 63)) ||| (((xs (i + 3)).toInt64) &&& 4294967295)) hF) (cwV 2 hts gL_law_X1_store rfl rfl rfl (by decide +kernel) ⟨Nat.le_of_ble_eq_true rfl, Nat.le_of_ble_eq_true rfl⟩) (va_recv hK hP (ci := 1) (q0 := 0) rfl rfl) hK hP hD hS hA hN rfl hl.1 rfl (Nat.le_of_ble_eq_true rfl) dL_law_239 ⟨Nat.le_of_ble_eq_true rfl, Nat.le_of_ble_eq_true rfl⟩ (fun H locs hP hD hS => ?_)
  refine lv_aload_n hx hb dL_law_242 rfl (lv_at hl 2 rfl) ?_
  refine lv_aload_n hx hb dL_law_243 rfl (lv_at hl 0 rfl) ?_
  refine lv_iload_n hx hb dL_law_244 rfl (lv_at hl 3 rfl) ?_
  refine lv_iconst (v := nI 1) hx hb dL_law_245 (by decide) ?_
  refine q_iadd hx hb dL_law_246 ?_
  refine va_sld hx hb hX hbl hbA hS (vp_in_nI (show i + 1 < L by omega) (by omega)) dL_law_247 ?_
  rw [nI_clamp (n := i + 1) (by omega)]
  refine lv_aload_n hx hb dL_law_248 rfl (lv_at hl 0 rfl) ?_
  refine lv_iload_n hx hb dL_law_249 rfl (lv_at hl 3 rfl) ?_
  refine lv_iconst (v := nI 2) hx hb dL_law_250 (by decide) ?_
  refine q_iadd hx hb dL_law_251 ?_
  refine va_sld hx hb hX hbl hbA hS (vp_in_nI (show i + 2 < L by omega) (by omega)) dL_law_252 ?_
  rw [nI_clamp (n := i + 2) (by omega)]
  refine lv_i2l hx hb dL_law_253 rfl ?_
  refine lv_bipush (v := nI 32) hx hb dL_law_254 (by decide) ?_
  refine lv_lshl hx hb dL_law_256 rfl ?_
  refine lv_aload_n hx hb dL_law_257 rfl (lv_at hl 0 rfl) ?_
  refine lv_iload_n hx hb dL_law_258 rfl (lv_at hl 3 rfl) ?_
  refine lv_iconst (v := nI 3) hx hb dL_law_259 (by decide) ?_
  refine q_iadd hx hb dL_law_260 ?_
  refine va_sld hx hb hX hbl hbA hS (vp_in_nI (show i + 3 < L by omega) (by omega)) dL_law_261 ?_
  rw [nI_clamp (n := i + 3) (by omega)]
  refine lv_i2l hx hb dL_law_262 rfl ?_
  refine lv_ldc2 hx hb hown (hts (.constantLong RL 13 (4294967295)) (List.mem_of_getElem? (i := 6) rfl)) dL_law_263 ?_
  refine lv_land hx hb dL_law_266 ?_
  refine lv_lor hx hb dL_law_267 ?_
  have hPm := hP.sub (ws' := wR b y r (wC a y ((storeF (xs (i + 1)) ((((xs (i + 2)).toInt64) <<< ((nI 32).toInt64 &&& 63)) ||| (((xs (i + 3)).toInt64) &&& 4294967295)) c).2) [])) [8, 9, 10, 11, 12, 13, 14, 15, 16, 17, 18, 19, 20, 0, 1, 2, 3, 4, 5, 6, 7] rfl
  have hDm := hD.sub (ws' := wR b y r (wC a y ((storeF (xs (i + 1)) ((((xs (i + 2)).toInt64) <<< ((nI 32).toInt64 &&& 63)) ||| (((xs (i + 3)).toInt64) &&& 4294967295)) c).2) [])) [8, 9, 10, 11, 12, 13, 14, 15, 16, 17, 18, 19, 20, 0, 1, 2, 3, 4, 5, 6, 7] (by decide) rfl
  refine callVi (rest := [.int ((storeF (xs (i + 1)) ((((xs (i + 2)).toInt64) <<< ((nI 32).toInt64 &&& 63)) ||| (((xs (i + 3)).toInt64) &&& 4294967295)) c).1)]) ⟨hx, hb, hml, hown, hts⟩ (mX2_store l y (wC a y ((storeF (xs (i + 1)) ((((xs (i + 2)).toInt64) <<< ((nI 32).toInt64 &&& 63)) ||| (((xs (i + 3)).toInt64) &&& 4294967295)) c).2) []) b r (xs (i + 1)) ((((xs (i + 2)).toInt64) <<< ((nI 32).toInt64 &&& 63)) ||| (((xs (i + 3)).toInt64) &&& 4294967295)) hI) (cwV 2 hts gL_law_X2_store rfl rfl rfl (by decide +kernel) ⟨Nat.le_of_ble_eq_true rfl, Nat.le_of_ble_eq_true rfl⟩) (va_recv hK hPm (ci := 2) (q0 := 0) rfl rfl) hK hPm hDm hS hA hN rfl hl.1 rfl (Nat.le_of_ble_eq_true rfl) dL_law_268 ⟨Nat.le_of_ble_eq_true rfl, Nat.le_of_ble_eq_true rfl⟩ (fun H locs hPm hDm hS => ?_)
  have hP := hPm.sub (ws' := wC a y ((storeF (xs (i + 1)) ((((xs (i + 2)).toInt64) <<< ((nI 32).toInt64 &&& 63)) ||| (((xs (i + 3)).toInt64) &&& 4294967295)) c).2) (wR b y ((storeR (xs (i + 1)) ((((xs (i + 2)).toInt64) <<< ((nI 32).toInt64 &&& 63)) ||| (((xs (i + 3)).toInt64) &&& 4294967295)) r).2) [])) [13, 14, 15, 16, 17, 18, 19, 20, 0, 1, 2, 3, 4, 5, 6, 7, 8, 9, 10, 11, 12] rfl
  have hD := hDm.sub (ws' := wC a y ((storeF (xs (i + 1)) ((((xs (i + 2)).toInt64) <<< ((nI 32).toInt64 &&& 63)) ||| (((xs (i + 3)).toInt64) &&& 4294967295)) c).2) (wR b y ((storeR (xs (i + 1)) ((((xs (i + 2)).toInt64) <<< ((nI 32).toInt64 &&& 63)) ||| (((xs (i + 3)).toInt64) &&& 4294967295)) r).2) [])) [13, 14, 15, 16, 17, 18, 19, 20, 0, 1, 2, 3, 4, 5, 6, 7, 8, 9, 10, 11, 12] (by decide) rfl
  refine lv_icmp_eq (tgt := 428) hx hb dL_law_271 (by decide) (fun _ => ?_) (fun h => absurd (f_store (xs (i + 1)) ((((xs (i + 2)).toInt64) <<< ((nI 32).toInt64 &&& 63)) ||| (((xs (i + 3)).toInt64) &&& 4294967295)) hR).1 h)
  exact k ((storeF (xs (i + 1)) ((((xs (i + 2)).toInt64) <<< ((nI 32).toInt64 &&& 63)) ||| (((xs (i + 3)).toInt64) &&& 4294967295)) c).2) ((storeR (xs (i + 1)) ((((xs (i + 2)).toInt64) <<< ((nI 32).toInt64 &&& 63)) ||| (((xs (i + 3)).toInt64) &&& 4294967295)) r).2) (f_store (xs (i + 1)) ((((xs (i + 2)).toInt64) <<< ((nI 32).toInt64 &&& 63)) ||| (((xs (i + 3)).toInt64) &&& 4294967295)) hR).2 H locs hP hD hS
set_option maxHeartbeats 1000000 in
set_option maxRecDepth 100000 in
theorem law_4 {p : Program} {l : Launch} {e : Env} {s : State} {m : MethodId} {below : List Frame} {meth : Method} {c0 : Code} {D : va_G} {b0 L : Nat} {xs : Nat → Int32} (hL : L ≤ 2048) (C0 : lw_At p s m meth c0 b0 L xs) {a b : Nat → Nat} {y : Nat → ClassId} (hK : va_K D vwCl (tyA y) s) (hN : nwA s) {i : Nat} {c : CS} {r : RS} {ls : Array Slot} (hi : i + 4 ≤ L) (hR : RA c r) (hl : lv_has ls 4 [(0, .ref b0), (1, .ref (a 0)), (2, .ref (b 0)), (3, .int (nI i))]) (k : ∀ (c1 : CS) (r1 : RS), RA c1 r1 → ∀ (H : Heap) (locs : List Loc), va_P D vwCl (wC a y c1 (wR b y r1 [])) H → va_D (fun q : Nat => s.heap.size ≤ q) (wC a y c1 (wR b y r1 [])) → va_S (fun q : Nat => s.heap.size ≤ q) s.heap H locs → W p l e room_1 s m #[Value.ref b0] below meth c0 H locs 21 585 (lw_Z below #[Value.ref b0] s) (F0 m 428 ls [])) : ∀ (H : Heap) (locs : List Loc), va_P D vwCl (wC a y c (wR b y r [])) H → va_D (fun q : Nat => s.heap.size ≤ q) (wC a y c (wR b y r [])) → va_S (fun q : Nat => s.heap.size ≤ q) s.heap H locs → W p l e room_1 s m #[Value.ref b0] below meth c0 H locs 21 585 (lw_Z below #[Value.ref b0] s) (F0 m 276 ls []) := by
  obtain ⟨hx, hb, hr, hml, hown, hts0, hX, hbl, hlocks, hgv⟩ := C0
  have hown : s.vm.findClass RL = some m.cls := hown
  have hts : ∀ w ∈ wsL_law, w.before #[Value.ref b0] s = true := fun w h => hts0 w (wsL_law_in w h)
  have hA : ∀ q : Nat, s.heap.size ≤ q → (fun q : Nat => s.heap.size ≤ q) q := fun _ h => h
  have hbA : ¬ (fun q : Nat => s.heap.size ≤ q) b0 := Nat.not_le.mpr hbl
  intro H locs hP hD hS
  obtain ⟨hF, hnk, ht, h2z, hI⟩ := RN_SF hR.1
  refine lv_aload_n hx hb dL_law_276 rfl (lv_at hl 1 rfl) ?_
  refine callVi (rest := []) ⟨hx, hb, hml, hown, hts⟩ (mX1_commit l y (wR b y r []) a c  hF hnk) (cwV 0 hts gL_law_X1_commit rfl rfl rfl (by decide +kernel) ⟨Nat.le_of_ble_eq_true rfl, Nat.le_of_ble_eq_true rfl⟩) (va_recv hK hP (ci := 1) (q0 := 0) rfl rfl) hK hP hD hS hA hN rfl hl.1 rfl (Nat.le_of_ble_eq_true rfl) dL_law_277 ⟨Nat.le_of_ble_eq_true rfl, Nat.le_of_ble_eq_true rfl⟩ (fun H locs hP hD hS => ?_)
  refine lv_aload_n hx hb dL_law_280 rfl (lv_at hl 2 rfl) ?_
  have hPm := hP.sub (ws' := wR b y r (wC a y ((commitF c).2) [])) [8, 9, 10, 11, 12, 13, 14, 15, 16, 17, 18, 19, 20, 0, 1, 2, 3, 4, 5, 6, 7] rfl
  have hDm := hD.sub (ws' := wR b y r (wC a y ((commitF c).2) [])) [8, 9, 10, 11, 12, 13, 14, 15, 16, 17, 18, 19, 20, 0, 1, 2, 3, 4, 5, 6, 7] (by decide) rfl
  refine callVi (rest := [.int ((commitF c).1)]) ⟨hx, hb, hml, hown, hts⟩ (mX2_commit l y (wC a y ((commitF c).2) []) b r  hI) (cwV 0 hts gL_law_X2_commit rfl rfl rfl (by decide +kernel) ⟨Nat.le_of_ble_eq_true rfl, Nat.le_of_ble_eq_true rfl⟩) (va_recv hK hPm (ci := 2) (q0 := 0) rfl rfl) hK hPm hDm hS hA hN rfl hl.1 rfl (Nat.le_of_ble_eq_true rfl) dL_law_281 ⟨Nat.le_of_ble_eq_true rfl, Nat.le_of_ble_eq_true rfl⟩ (fun H locs hPm hDm hS => ?_)
  have hP := hPm.sub (ws' := wC a y ((commitF c).2) (wR b y ((commitR r).2) [])) [13, 14, 15, 16, 17, 18, 19, 20, 0, 1, 2, 3, 4, 5, 6, 7, 8, 9, 10, 11, 12] rfl
  have hD := hDm.sub (ws' := wC a y ((commitF c).2) (wR b y ((commitR r).2) [])) [13, 14, 15, 16, 17, 18, 19, 20, 0, 1, 2, 3, 4, 5, 6, 7, 8, 9, 10, 11, 12] (by decide) rfl
  refine lv_icmp_eq (tgt := 428) hx hb dL_law_284 (by decide) (fun _ => ?_) (fun h => absurd (f_commit hR).1 h)
  exact k ((commitF c).2) ((commitR r).2) (f_commit hR).2 H locs hP hD hS
set_option maxHeartbeats 1000000 in
set_option maxRecDepth 100000 in
theorem law_5 {p : Program} {l : Launch} {e : Env} {s : State} {m : MethodId} {below : List Frame} {meth : Method} {c0 : Code} {D : va_G} {b0 L : Nat} {xs : Nat → Int32} (hL : L ≤ 2048) (C0 : lw_At p s m meth c0 b0 L xs) {a b : Nat → Nat} {y : Nat → ClassId} (hK : va_K D vwCl (tyA y) s) (hN : nwA s) {i : Nat} {c : CS} {r : RS} {ls : Array Slot} (hi : i + 4 ≤ L) (hR : RA c r) (hl : lv_has ls 4 [(0, .ref b0), (1, .ref (a 0)), (2, .ref (b 0)), (3, .int (nI i))]) (k : ∀ (c1 : CS) (r1 : RS), RA c1 r1 → ∀ (H : Heap) (locs : List Loc), va_P D vwCl (wC a y c1 (wR b y r1 [])) H → va_D (fun q : Nat => s.heap.size ≤ q) (wC a y c1 (wR b y r1 [])) → va_S (fun q : Nat => s.heap.size ≤ q) s.heap H locs → W p l e room_1 s m #[Value.ref b0] below meth c0 H locs 21 585 (lw_Z below #[Value.ref b0] s) (F0 m 428 ls [])) : ∀ (H : Heap) (locs : List Loc), va_P D vwCl (wC a y c (wR b y r [])) H → va_D (fun q : Nat => s.heap.size ≤ q) (wC a y c (wR b y r [])) → va_S (fun q : Nat => s.heap.size ≤ q) s.heap H locs → W p l e room_1 s m #[Value.ref b0] below meth c0 H locs 21 585 (lw_Z below #[Value.ref b0] s) (F0 m 289 ls []) := by
  obtain ⟨hx, hb, hr, hml, hown, hts0, hX, hbl, hlocks, hgv⟩ := C0
  have hown : s.vm.findClass RL = some m.cls := hown
  have hts : ∀ w ∈ wsL_law, w.before #[Value.ref b0] s = true := fun w h => hts0 w (wsL_law_in w h)
  have hA : ∀ q : Nat, s.heap.size ≤ q → (fun q : Nat => s.heap.size ≤ q) q := fun _ h => h
  have hbA : ¬ (fun q : Nat => s.heap.size ≤ q) b0 := Nat.not_le.mpr hbl
  intro H locs hP hD hS
  obtain ⟨hF, hnk, ht, h2z, hI⟩ := RN_SF hR.1
  refine lv_aload_n hx hb dL_law_289 rfl (lv_at hl 1 rfl) ?_
  refine callVi (rest := []) ⟨hx, hb, hml, hown, hts⟩ (mX1_abort l y (wR b y r []) a c  hF hnk) (cwV 0 hts gL_law_X1_abort rfl rfl rfl (by decide +kernel) ⟨Nat.le_of_ble_eq_true rfl, Nat.le_of_ble_eq_true rfl⟩) (va_recv hK hP (ci := 1) (q0 := 0) rfl rfl) hK hP hD hS hA hN rfl hl.1 rfl (Nat.le_of_ble_eq_true rfl) dL_law_290 ⟨Nat.le_of_ble_eq_true rfl, Nat.le_of_ble_eq_true rfl⟩ (fun H locs hP hD hS => ?_)
  refine lv_aload_n hx hb dL_law_293 rfl (lv_at hl 2 rfl) ?_
  have hPm := hP.sub (ws' := wR b y r (wC a y ((abortF c).2) [])) [8, 9, 10, 11, 12, 13, 14, 15, 16, 17, 18, 19, 20, 0, 1, 2, 3, 4, 5, 6, 7] rfl
  have hDm := hD.sub (ws' := wR b y r (wC a y ((abortF c).2) [])) [8, 9, 10, 11, 12, 13, 14, 15, 16, 17, 18, 19, 20, 0, 1, 2, 3, 4, 5, 6, 7] (by decide) rfl
  refine callVi (rest := [.int ((abortF c).1)]) ⟨hx, hb, hml, hown, hts⟩ (mX2_abort l y (wC a y ((abortF c).2) []) b r  hI) (cwV 0 hts gL_law_X2_abort rfl rfl rfl (by decide +kernel) ⟨Nat.le_of_ble_eq_true rfl, Nat.le_of_ble_eq_true rfl⟩) (va_recv hK hPm (ci := 2) (q0 := 0) rfl rfl) hK hPm hDm hS hA hN rfl hl.1 rfl (Nat.le_of_ble_eq_true rfl) dL_law_294 ⟨Nat.le_of_ble_eq_true rfl, Nat.le_of_ble_eq_true rfl⟩ (fun H locs hPm hDm hS => ?_)
  have hP := hPm.sub (ws' := wC a y ((abortF c).2) (wR b y ((abortR r).2) [])) [13, 14, 15, 16, 17, 18, 19, 20, 0, 1, 2, 3, 4, 5, 6, 7, 8, 9, 10, 11, 12] rfl
  have hD := hDm.sub (ws' := wC a y ((abortF c).2) (wR b y ((abortR r).2) [])) [13, 14, 15, 16, 17, 18, 19, 20, 0, 1, 2, 3, 4, 5, 6, 7, 8, 9, 10, 11, 12] (by decide) rfl
  refine lv_icmp_eq (tgt := 428) hx hb dL_law_297 (by decide) (fun _ => ?_) (fun h => absurd (f_abort hR).1 h)
  exact k ((abortF c).2) ((abortR r).2) (f_abort hR).2 H locs hP hD hS
set_option maxHeartbeats 1000000 in
set_option maxRecDepth 100000 in
theorem law_6 {p : Program} {l : Launch} {e : Env} {s : State} {m : MethodId} {below : List Frame} {meth : Method} {c0 : Code} {D : va_G} {b0 L : Nat} {xs : Nat → Int32} (hL : L ≤ 2048) (C0 : lw_At p s m meth c0 b0 L xs) {a b : Nat → Nat} {y : Nat → ClassId} (hK : va_K D vwCl (tyA y) s) (hN : nwA s) {i : Nat} {c : CS} {r : RS} {ls : Array Slot} (hi : i + 4 ≤ L) (hR : RA c r) (hl : lv_has ls 4 [(0, .ref b0), (1, .ref (a 0)), (2, .ref (b 0)), (3, .int (nI i))]) (k : ∀ (c1 : CS) (r1 : RS), RA c1 r1 → ∀ (H : Heap) (locs : List Loc), va_P D vwCl (wC a y c1 (wR b y r1 [])) H → va_D (fun q : Nat => s.heap.size ≤ q) (wC a y c1 (wR b y r1 [])) → va_S (fun q : Nat => s.heap.size ≤ q) s.heap H locs → W p l e room_1 s m #[Value.ref b0] below meth c0 H locs 21 585 (lw_Z below #[Value.ref b0] s) (F0 m 428 ls [])) : ∀ (H : Heap) (locs : List Loc), va_P D vwCl (wC a y c (wR b y r [])) H → va_D (fun q : Nat => s.heap.size ≤ q) (wC a y c (wR b y r [])) → va_S (fun q : Nat => s.heap.size ≤ q) s.heap H locs → W p l e room_1 s m #[Value.ref b0] below meth c0 H locs 21 585 (lw_Z below #[Value.ref b0] s) (F0 m 302 ls []) := by
  obtain ⟨hx, hb, hr, hml, hown, hts0, hX, hbl, hlocks, hgv⟩ := C0
  have hown : s.vm.findClass RL = some m.cls := hown
  have hts : ∀ w ∈ wsL_law, w.before #[Value.ref b0] s = true := fun w h => hts0 w (wsL_law_in w h)
  have hA : ∀ q : Nat, s.heap.size ≤ q → (fun q : Nat => s.heap.size ≤ q) q := fun _ h => h
  have hbA : ¬ (fun q : Nat => s.heap.size ≤ q) b0 := Nat.not_le.mpr hbl
  intro H locs hP hD hS
  obtain ⟨hF, hnk, ht, h2z, hI⟩ := RN_SF hR.1
  refine lv_aload_n hx hb dL_law_302 rfl (lv_at hl 1 rfl) ?_
  refine callVi (rest := []) ⟨hx, hb, hml, hown, hts⟩ (mX1_recover l y (wR b y r []) a c  hF hnk) (cwV 0 hts gL_law_X1_recover rfl rfl rfl (by decide +kernel) ⟨Nat.le_of_ble_eq_true rfl, Nat.le_of_ble_eq_true rfl⟩) (va_recv hK hP (ci := 1) (q0 := 0) rfl rfl) hK hP hD hS hA hN rfl hl.1 rfl (Nat.le_of_ble_eq_true rfl) dL_law_303 ⟨Nat.le_of_ble_eq_true rfl, Nat.le_of_ble_eq_true rfl⟩ (fun H locs hP hD hS => ?_)
  refine lv_aload_n hx hb dL_law_306 rfl (lv_at hl 2 rfl) ?_
  have hPm := hP.sub (ws' := wR b y r (wC a y ((recoverF c).2) [])) [8, 9, 10, 11, 12, 13, 14, 15, 16, 17, 18, 19, 20, 0, 1, 2, 3, 4, 5, 6, 7] rfl
  have hDm := hD.sub (ws' := wR b y r (wC a y ((recoverF c).2) [])) [8, 9, 10, 11, 12, 13, 14, 15, 16, 17, 18, 19, 20, 0, 1, 2, 3, 4, 5, 6, 7] (by decide) rfl
  refine callVi (rest := [.int ((recoverF c).1)]) ⟨hx, hb, hml, hown, hts⟩ (mX2_recover l y (wC a y ((recoverF c).2) []) b r  hI) (cwV 0 hts gL_law_X2_recover rfl rfl rfl (by decide +kernel) ⟨Nat.le_of_ble_eq_true rfl, Nat.le_of_ble_eq_true rfl⟩) (va_recv hK hPm (ci := 2) (q0 := 0) rfl rfl) hK hPm hDm hS hA hN rfl hl.1 rfl (Nat.le_of_ble_eq_true rfl) dL_law_307 ⟨Nat.le_of_ble_eq_true rfl, Nat.le_of_ble_eq_true rfl⟩ (fun H locs hPm hDm hS => ?_)
  have hP := hPm.sub (ws' := wC a y ((recoverF c).2) (wR b y ((recoverR r).2) [])) [13, 14, 15, 16, 17, 18, 19, 20, 0, 1, 2, 3, 4, 5, 6, 7, 8, 9, 10, 11, 12] rfl
  have hD := hDm.sub (ws' := wC a y ((recoverF c).2) (wR b y ((recoverR r).2) [])) [13, 14, 15, 16, 17, 18, 19, 20, 0, 1, 2, 3, 4, 5, 6, 7, 8, 9, 10, 11, 12] (by decide) rfl
  refine lv_icmp_eq (tgt := 428) hx hb dL_law_310 (by decide) (fun _ => ?_) (fun h => absurd (f_recover hR).1 h)
  exact k ((recoverF c).2) ((recoverR r).2) (f_recover hR).2 H locs hP hD hS
set_option maxHeartbeats 1000000 in
set_option maxRecDepth 100000 in
theorem law_7 {p : Program} {l : Launch} {e : Env} {s : State} {m : MethodId} {below : List Frame} {meth : Method} {c0 : Code} {D : va_G} {b0 L : Nat} {xs : Nat → Int32} (hL : L ≤ 2048) (C0 : lw_At p s m meth c0 b0 L xs) {a b : Nat → Nat} {y : Nat → ClassId} (hK : va_K D vwCl (tyA y) s) (hN : nwA s) {i : Nat} {c : CS} {r : RS} {ls : Array Slot} (hi : i + 4 ≤ L) (hR : RA c r) (hl : lv_has ls 4 [(0, .ref b0), (1, .ref (a 0)), (2, .ref (b 0)), (3, .int (nI i))]) (k : ∀ (c1 : CS) (r1 : RS), RA c1 r1 → ∀ (H : Heap) (locs : List Loc), va_P D vwCl (wC a y c1 (wR b y r1 [])) H → va_D (fun q : Nat => s.heap.size ≤ q) (wC a y c1 (wR b y r1 [])) → va_S (fun q : Nat => s.heap.size ≤ q) s.heap H locs → W p l e room_1 s m #[Value.ref b0] below meth c0 H locs 21 585 (lw_Z below #[Value.ref b0] s) (F0 m 428 ls [])) : ∀ (H : Heap) (locs : List Loc), va_P D vwCl (wC a y c (wR b y r [])) H → va_D (fun q : Nat => s.heap.size ≤ q) (wC a y c (wR b y r [])) → va_S (fun q : Nat => s.heap.size ≤ q) s.heap H locs → W p l e room_1 s m #[Value.ref b0] below meth c0 H locs 21 585 (lw_Z below #[Value.ref b0] s) (F0 m 315 ls []) := by
  obtain ⟨hx, hb, hr, hml, hown, hts0, hX, hbl, hlocks, hgv⟩ := C0
  have hown : s.vm.findClass RL = some m.cls := hown
  have hts : ∀ w ∈ wsL_law, w.before #[Value.ref b0] s = true := fun w h => hts0 w (wsL_law_in w h)
  have hA : ∀ q : Nat, s.heap.size ≤ q → (fun q : Nat => s.heap.size ≤ q) q := fun _ h => h
  have hbA : ¬ (fun q : Nat => s.heap.size ≤ q) b0 := Nat.not_le.mpr hbl
  intro H locs hP hD hS
  obtain ⟨hF, hnk, ht, h2z, hI⟩ := RN_SF hR.1
  refine lv_aload_n hx hb dL_law_315 rfl (lv_at hl 1 rfl) ?_
  refine callVi (rest := []) ⟨hx, hb, hml, hown, hts⟩ (mX1_on l y (wR b y r []) a c  ) (cwV 0 hts gL_law_X1_on rfl rfl rfl (by decide +kernel) ⟨Nat.le_of_ble_eq_true rfl, Nat.le_of_ble_eq_true rfl⟩) (va_recv hK hP (ci := 1) (q0 := 0) rfl rfl) hK hP hD hS hA hN rfl hl.1 rfl (Nat.le_of_ble_eq_true rfl) dL_law_316 ⟨Nat.le_of_ble_eq_true rfl, Nat.le_of_ble_eq_true rfl⟩ (fun H locs hP hD hS => ?_)
  refine lv_aload_n hx hb dL_law_319 rfl (lv_at hl 2 rfl) ?_
  have hPm := hP.sub (ws' := wR b y r (wC a y c [])) [8, 9, 10, 11, 12, 13, 14, 15, 16, 17, 18, 19, 20, 0, 1, 2, 3, 4, 5, 6, 7] rfl
  have hDm := hD.sub (ws' := wR b y r (wC a y c [])) [8, 9, 10, 11, 12, 13, 14, 15, 16, 17, 18, 19, 20, 0, 1, 2, 3, 4, 5, 6, 7] (by decide) rfl
  refine callVi (rest := [.int (bI (c_on c))]) ⟨hx, hb, hml, hown, hts⟩ (mX2_on l y (wC a y c []) b r  ) (cwV 0 hts gL_law_X2_on rfl rfl rfl (by decide +kernel) ⟨Nat.le_of_ble_eq_true rfl, Nat.le_of_ble_eq_true rfl⟩) (va_recv hK hPm (ci := 2) (q0 := 0) rfl rfl) hK hPm hDm hS hA hN rfl hl.1 rfl (Nat.le_of_ble_eq_true rfl) dL_law_320 ⟨Nat.le_of_ble_eq_true rfl, Nat.le_of_ble_eq_true rfl⟩ (fun H locs hPm hDm hS => ?_)
  have hP := hPm.sub (ws' := wC a y c (wR b y r [])) [13, 14, 15, 16, 17, 18, 19, 20, 0, 1, 2, 3, 4, 5, 6, 7, 8, 9, 10, 11, 12] rfl
  have hD := hDm.sub (ws' := wC a y c (wR b y r [])) [13, 14, 15, 16, 17, 18, 19, 20, 0, 1, 2, 3, 4, 5, 6, 7, 8, 9, 10, 11, 12] (by decide) rfl
  refine lv_icmp_eq (tgt := 428) hx hb dL_law_323 (by decide) (fun _ => ?_) (fun h => absurd (by rw [hR.1.1.2.2.1]) h)
  exact k c r hR H locs hP hD hS
set_option maxHeartbeats 1000000 in
set_option maxRecDepth 100000 in
theorem law_8 {p : Program} {l : Launch} {e : Env} {s : State} {m : MethodId} {below : List Frame} {meth : Method} {c0 : Code} {D : va_G} {b0 L : Nat} {xs : Nat → Int32} (hL : L ≤ 2048) (C0 : lw_At p s m meth c0 b0 L xs) {a b : Nat → Nat} {y : Nat → ClassId} (hK : va_K D vwCl (tyA y) s) (hN : nwA s) {i : Nat} {c : CS} {r : RS} {ls : Array Slot} (hi : i + 4 ≤ L) (hR : RA c r) (hl : lv_has ls 4 [(0, .ref b0), (1, .ref (a 0)), (2, .ref (b 0)), (3, .int (nI i))]) (k : ∀ (c1 : CS) (r1 : RS), RA c1 r1 → ∀ (H : Heap) (locs : List Loc), va_P D vwCl (wC a y c1 (wR b y r1 [])) H → va_D (fun q : Nat => s.heap.size ≤ q) (wC a y c1 (wR b y r1 [])) → va_S (fun q : Nat => s.heap.size ≤ q) s.heap H locs → W p l e room_1 s m #[Value.ref b0] below meth c0 H locs 21 585 (lw_Z below #[Value.ref b0] s) (F0 m 428 ls [])) : ∀ (H : Heap) (locs : List Loc), va_P D vwCl (wC a y c (wR b y r [])) H → va_D (fun q : Nat => s.heap.size ≤ q) (wC a y c (wR b y r [])) → va_S (fun q : Nat => s.heap.size ≤ q) s.heap H locs → W p l e room_1 s m #[Value.ref b0] below meth c0 H locs 21 585 (lw_Z below #[Value.ref b0] s) (F0 m 328 ls []) := by
  obtain ⟨hx, hb, hr, hml, hown, hts0, hX, hbl, hlocks, hgv⟩ := C0
  have hown : s.vm.findClass RL = some m.cls := hown
  have hts : ∀ w ∈ wsL_law, w.before #[Value.ref b0] s = true := fun w h => hts0 w (wsL_law_in w h)
  have hA : ∀ q : Nat, s.heap.size ≤ q → (fun q : Nat => s.heap.size ≤ q) q := fun _ h => h
  have hbA : ¬ (fun q : Nat => s.heap.size ≤ q) b0 := Nat.not_le.mpr hbl
  intro H locs hP hD hS
  obtain ⟨hF, hnk, ht, h2z, hI⟩ := RN_SF hR.1
  refine lv_aload_n hx hb dL_law_328 rfl (lv_at hl 1 rfl) ?_
  refine callVi (rest := []) ⟨hx, hb, hml, hown, hts⟩ (mX1_open l y (wR b y r []) a c  ) (cwV 0 hts gL_law_X1_open rfl rfl rfl (by decide +kernel) ⟨Nat.le_of_ble_eq_true rfl, Nat.le_of_ble_eq_true rfl⟩) (va_recv hK hP (ci := 1) (q0 := 0) rfl rfl) hK hP hD hS hA hN rfl hl.1 rfl (Nat.le_of_ble_eq_true rfl) dL_law_329 ⟨Nat.le_of_ble_eq_true rfl, Nat.le_of_ble_eq_true rfl⟩ (fun H locs hP hD hS => ?_)
  refine lv_aload_n hx hb dL_law_332 rfl (lv_at hl 2 rfl) ?_
  have hPm := hP.sub (ws' := wR b y r (wC a y c [])) [8, 9, 10, 11, 12, 13, 14, 15, 16, 17, 18, 19, 20, 0, 1, 2, 3, 4, 5, 6, 7] rfl
  have hDm := hD.sub (ws' := wR b y r (wC a y c [])) [8, 9, 10, 11, 12, 13, 14, 15, 16, 17, 18, 19, 20, 0, 1, 2, 3, 4, 5, 6, 7] (by decide) rfl
  refine callVi (rest := [.int (bI (c_op c))]) ⟨hx, hb, hml, hown, hts⟩ (mX2_open l y (wC a y c []) b r  ) (cwV 0 hts gL_law_X2_open rfl rfl rfl (by decide +kernel) ⟨Nat.le_of_ble_eq_true rfl, Nat.le_of_ble_eq_true rfl⟩) (va_recv hK hPm (ci := 2) (q0 := 0) rfl rfl) hK hPm hDm hS hA hN rfl hl.1 rfl (Nat.le_of_ble_eq_true rfl) dL_law_333 ⟨Nat.le_of_ble_eq_true rfl, Nat.le_of_ble_eq_true rfl⟩ (fun H locs hPm hDm hS => ?_)
  have hP := hPm.sub (ws' := wC a y c (wR b y r [])) [13, 14, 15, 16, 17, 18, 19, 20, 0, 1, 2, 3, 4, 5, 6, 7, 8, 9, 10, 11, 12] rfl
  have hD := hDm.sub (ws' := wC a y c (wR b y r [])) [13, 14, 15, 16, 17, 18, 19, 20, 0, 1, 2, 3, 4, 5, 6, 7, 8, 9, 10, 11, 12] (by decide) rfl
  refine lv_icmp_eq (tgt := 428) hx hb dL_law_336 (by decide) (fun _ => ?_) (fun h => absurd (by rw [hR.2]) h)
  exact k c r hR H locs hP hD hS
set_option maxHeartbeats 1000000 in
set_option maxRecDepth 100000 in
theorem law_9 {p : Program} {l : Launch} {e : Env} {s : State} {m : MethodId} {below : List Frame} {meth : Method} {c0 : Code} {D : va_G} {b0 L : Nat} {xs : Nat → Int32} (hL : L ≤ 2048) (C0 : lw_At p s m meth c0 b0 L xs) {a b : Nat → Nat} {y : Nat → ClassId} (hK : va_K D vwCl (tyA y) s) (hN : nwA s) {i : Nat} {c : CS} {r : RS} {ls : Array Slot} (hi : i + 4 ≤ L) (hR : RA c r) (hl : lv_has ls 4 [(0, .ref b0), (1, .ref (a 0)), (2, .ref (b 0)), (3, .int (nI i))]) (k : ∀ (c1 : CS) (r1 : RS), RA c1 r1 → ∀ (H : Heap) (locs : List Loc), va_P D vwCl (wC a y c1 (wR b y r1 [])) H → va_D (fun q : Nat => s.heap.size ≤ q) (wC a y c1 (wR b y r1 [])) → va_S (fun q : Nat => s.heap.size ≤ q) s.heap H locs → W p l e room_1 s m #[Value.ref b0] below meth c0 H locs 21 585 (lw_Z below #[Value.ref b0] s) (F0 m 428 ls [])) : ∀ (H : Heap) (locs : List Loc), va_P D vwCl (wC a y c (wR b y r [])) H → va_D (fun q : Nat => s.heap.size ≤ q) (wC a y c (wR b y r [])) → va_S (fun q : Nat => s.heap.size ≤ q) s.heap H locs → W p l e room_1 s m #[Value.ref b0] below meth c0 H locs 21 585 (lw_Z below #[Value.ref b0] s) (F0 m 341 ls []) := by
  obtain ⟨hx, hb, hr, hml, hown, hts0, hX, hbl, hlocks, hgv⟩ := C0
  have hown : s.vm.findClass RL = some m.cls := hown
  have hts : ∀ w ∈ wsL_law, w.before #[Value.ref b0] s = true := fun w h => hts0 w (wsL_law_in w h)
  have hA : ∀ q : Nat, s.heap.size ≤ q → (fun q : Nat => s.heap.size ≤ q) q := fun _ h => h
  have hbA : ¬ (fun q : Nat => s.heap.size ≤ q) b0 := Nat.not_le.mpr hbl
  intro H locs hP hD hS
  obtain ⟨hF, hnk, ht, h2z, hI⟩ := RN_SF hR.1
  refine lv_aload_n hx hb dL_law_341 rfl (lv_at hl 1 rfl) ?_
  refine lv_aload_n hx hb dL_law_342 rfl (lv_at hl 0 rfl) ?_
  refine lv_iload_n hx hb dL_law_343 rfl (lv_at hl 3 rfl) ?_
  refine lv_iconst (v := nI 1) hx hb dL_law_344 (by decide) ?_
  refine q_iadd hx hb dL_law_345 ?_
  refine va_sld hx hb hX hbl hbA hS (vp_in_nI (show i + 1 < L by omega) (by omega)) dL_law_346 ?_
  rw [nI_clamp (n := i + 1) (by omega)]
  refine callVl (rest := []) ⟨hx, hb, hml, hown, hts⟩ (mX1_seen l y (wR b y r []) a c (xs (i + 1)) ) (cwV 1 hts gL_law_X1_seen rfl rfl rfl (by decide +kernel) ⟨Nat.le_of_ble_eq_true rfl, Nat.le_of_ble_eq_true rfl⟩) (va_recv hK hP (ci := 1) (q0 := 0) rfl rfl) hK hP hD hS hA hN rfl hl.1 rfl (Nat.le_of_ble_eq_true rfl) dL_law_347 ⟨Nat.le_of_ble_eq_true rfl, Nat.le_of_ble_eq_true rfl⟩ (fun H locs hP hD hS => ?_)
  refine lv_aload_n hx hb dL_law_350 rfl (lv_at hl 2 rfl) ?_
  refine lv_aload_n hx hb dL_law_351 rfl (lv_at hl 0 rfl) ?_
  refine lv_iload_n hx hb dL_law_352 rfl (lv_at hl 3 rfl) ?_
  refine lv_iconst (v := nI 1) hx hb dL_law_353 (by decide) ?_
  refine q_iadd hx hb dL_law_354 ?_
  refine va_sld hx hb hX hbl hbA hS (vp_in_nI (show i + 1 < L by omega) (by omega)) dL_law_355 ?_
  rw [nI_clamp (n := i + 1) (by omega)]
  have hPm := hP.sub (ws' := wR b y r (wC a y c [])) [8, 9, 10, 11, 12, 13, 14, 15, 16, 17, 18, 19, 20, 0, 1, 2, 3, 4, 5, 6, 7] rfl
  have hDm := hD.sub (ws' := wR b y r (wC a y c [])) [8, 9, 10, 11, 12, 13, 14, 15, 16, 17, 18, 19, 20, 0, 1, 2, 3, 4, 5, 6, 7] (by decide) rfl
  refine callVl (rest := [.long (seenF (xs (i + 1)) c)]) ⟨hx, hb, hml, hown, hts⟩ (mX2_seen l y (wC a y c []) b r (xs (i + 1)) ) (cwV 1 hts gL_law_X2_seen rfl rfl rfl (by decide +kernel) ⟨Nat.le_of_ble_eq_true rfl, Nat.le_of_ble_eq_true rfl⟩) (va_recv hK hPm (ci := 2) (q0 := 0) rfl rfl) hK hPm hDm hS hA hN rfl hl.1 rfl (Nat.le_of_ble_eq_true rfl) dL_law_356 ⟨Nat.le_of_ble_eq_true rfl, Nat.le_of_ble_eq_true rfl⟩ (fun H locs hPm hDm hS => ?_)
  have hP := hPm.sub (ws' := wC a y c (wR b y r [])) [13, 14, 15, 16, 17, 18, 19, 20, 0, 1, 2, 3, 4, 5, 6, 7, 8, 9, 10, 11, 12] rfl
  have hD := hDm.sub (ws' := wC a y c (wR b y r [])) [13, 14, 15, 16, 17, 18, 19, 20, 0, 1, 2, 3, 4, 5, 6, 7, 8, 9, 10, 11, 12] (by decide) rfl
  refine W.lcmp hx hb dL_law_359 ?_
  refine lv_if_eq (tgt := 428) hx hb dL_law_360 (by decide) (fun _ => ?_) (fun h => absurd ((lg_cmp_0 _ _).mpr (f_seen (xs (i + 1)) hR)) h)
  exact k c r hR H locs hP hD hS
set_option maxHeartbeats 1000000 in
set_option maxRecDepth 100000 in
theorem law_10 {p : Program} {l : Launch} {e : Env} {s : State} {m : MethodId} {below : List Frame} {meth : Method} {c0 : Code} {D : va_G} {b0 L : Nat} {xs : Nat → Int32} (hL : L ≤ 2048) (C0 : lw_At p s m meth c0 b0 L xs) {a b : Nat → Nat} {y : Nat → ClassId} (hK : va_K D vwCl (tyA y) s) (hN : nwA s) {i : Nat} {c : CS} {r : RS} {ls : Array Slot} (hi : i + 4 ≤ L) (hR : RA c r) (hl : lv_has ls 4 [(0, .ref b0), (1, .ref (a 0)), (2, .ref (b 0)), (3, .int (nI i))]) (k : ∀ (c1 : CS) (r1 : RS), RA c1 r1 → ∀ (H : Heap) (locs : List Loc), va_P D vwCl (wC a y c1 (wR b y r1 [])) H → va_D (fun q : Nat => s.heap.size ≤ q) (wC a y c1 (wR b y r1 [])) → va_S (fun q : Nat => s.heap.size ≤ q) s.heap H locs → W p l e room_1 s m #[Value.ref b0] below meth c0 H locs 21 585 (lw_Z below #[Value.ref b0] s) (F0 m 428 ls [])) : ∀ (H : Heap) (locs : List Loc), va_P D vwCl (wC a y c (wR b y r [])) H → va_D (fun q : Nat => s.heap.size ≤ q) (wC a y c (wR b y r [])) → va_S (fun q : Nat => s.heap.size ≤ q) s.heap H locs → W p l e room_1 s m #[Value.ref b0] below meth c0 H locs 21 585 (lw_Z below #[Value.ref b0] s) (F0 m 365 ls []) := by
  obtain ⟨hx, hb, hr, hml, hown, hts0, hX, hbl, hlocks, hgv⟩ := C0
  have hown : s.vm.findClass RL = some m.cls := hown
  have hts : ∀ w ∈ wsL_law, w.before #[Value.ref b0] s = true := fun w h => hts0 w (wsL_law_in w h)
  have hA : ∀ q : Nat, s.heap.size ≤ q → (fun q : Nat => s.heap.size ≤ q) q := fun _ h => h
  have hbA : ¬ (fun q : Nat => s.heap.size ≤ q) b0 := Nat.not_le.mpr hbl
  intro H locs hP hD hS
  obtain ⟨hF, hnk, ht, h2z, hI⟩ := RN_SF hR.1
  refine lv_aload_n hx hb dL_law_365 rfl (lv_at hl 1 rfl) ?_
  refine lv_aload_n hx hb dL_law_366 rfl (lv_at hl 0 rfl) ?_
  refine lv_iload_n hx hb dL_law_367 rfl (lv_at hl 3 rfl) ?_
  refine lv_iconst (v := nI 1) hx hb dL_law_368 (by decide) ?_
  refine q_iadd hx hb dL_law_369 ?_
  refine va_sld hx hb hX hbl hbA hS (vp_in_nI (show i + 1 < L by omega) (by omega)) dL_law_370 ?_
  rw [nI_clamp (n := i + 1) (by omega)]
  refine callVl (rest := []) ⟨hx, hb, hml, hown, hts⟩ (mX1_kept l y (wR b y r []) a c (xs (i + 1)) ) (cwV 1 hts gL_law_X1_kept rfl rfl rfl (by decide +kernel) ⟨Nat.le_of_ble_eq_true rfl, Nat.le_of_ble_eq_true rfl⟩) (va_recv hK hP (ci := 1) (q0 := 0) rfl rfl) hK hP hD hS hA hN rfl hl.1 rfl (Nat.le_of_ble_eq_true rfl) dL_law_371 ⟨Nat.le_of_ble_eq_true rfl, Nat.le_of_ble_eq_true rfl⟩ (fun H locs hP hD hS => ?_)
  refine lv_aload_n hx hb dL_law_374 rfl (lv_at hl 2 rfl) ?_
  refine lv_aload_n hx hb dL_law_375 rfl (lv_at hl 0 rfl) ?_
  refine lv_iload_n hx hb dL_law_376 rfl (lv_at hl 3 rfl) ?_
  refine lv_iconst (v := nI 1) hx hb dL_law_377 (by decide) ?_
  refine q_iadd hx hb dL_law_378 ?_
  refine va_sld hx hb hX hbl hbA hS (vp_in_nI (show i + 1 < L by omega) (by omega)) dL_law_379 ?_
  rw [nI_clamp (n := i + 1) (by omega)]
  have hPm := hP.sub (ws' := wR b y r (wC a y c [])) [8, 9, 10, 11, 12, 13, 14, 15, 16, 17, 18, 19, 20, 0, 1, 2, 3, 4, 5, 6, 7] rfl
  have hDm := hD.sub (ws' := wR b y r (wC a y c [])) [8, 9, 10, 11, 12, 13, 14, 15, 16, 17, 18, 19, 20, 0, 1, 2, 3, 4, 5, 6, 7] (by decide) rfl
  refine callVl (rest := [.long (keptF (xs (i + 1)) c)]) ⟨hx, hb, hml, hown, hts⟩ (mX2_kept l y (wC a y c []) b r (xs (i + 1)) ) (cwV 1 hts gL_law_X2_kept rfl rfl rfl (by decide +kernel) ⟨Nat.le_of_ble_eq_true rfl, Nat.le_of_ble_eq_true rfl⟩) (va_recv hK hPm (ci := 2) (q0 := 0) rfl rfl) hK hPm hDm hS hA hN rfl hl.1 rfl (Nat.le_of_ble_eq_true rfl) dL_law_380 ⟨Nat.le_of_ble_eq_true rfl, Nat.le_of_ble_eq_true rfl⟩ (fun H locs hPm hDm hS => ?_)
  have hP := hPm.sub (ws' := wC a y c (wR b y r [])) [13, 14, 15, 16, 17, 18, 19, 20, 0, 1, 2, 3, 4, 5, 6, 7, 8, 9, 10, 11, 12] rfl
  have hD := hDm.sub (ws' := wC a y c (wR b y r [])) [13, 14, 15, 16, 17, 18, 19, 20, 0, 1, 2, 3, 4, 5, 6, 7, 8, 9, 10, 11, 12] (by decide) rfl
  refine W.lcmp hx hb dL_law_383 ?_
  refine lv_if_eq (tgt := 428) hx hb dL_law_384 (by decide) (fun _ => ?_) (fun h => absurd ((lg_cmp_0 _ _).mpr (f_kept (xs (i + 1)) hR)) h)
  exact k c r hR H locs hP hD hS
set_option maxHeartbeats 1000000 in
set_option maxRecDepth 100000 in
theorem law_11 {p : Program} {l : Launch} {e : Env} {s : State} {m : MethodId} {below : List Frame} {meth : Method} {c0 : Code} {D : va_G} {b0 L : Nat} {xs : Nat → Int32} (hL : L ≤ 2048) (C0 : lw_At p s m meth c0 b0 L xs) {a b : Nat → Nat} {y : Nat → ClassId} (hK : va_K D vwCl (tyA y) s) (hN : nwA s) {i : Nat} {c : CS} {r : RS} {ls : Array Slot} (hi : i + 4 ≤ L) (hR : RA c r) (hl : lv_has ls 4 [(0, .ref b0), (1, .ref (a 0)), (2, .ref (b 0)), (3, .int (nI i))]) (k : ∀ (c1 : CS) (r1 : RS), RA c1 r1 → ∀ (H : Heap) (locs : List Loc), va_P D vwCl (wC a y c1 (wR b y r1 [])) H → va_D (fun q : Nat => s.heap.size ≤ q) (wC a y c1 (wR b y r1 [])) → va_S (fun q : Nat => s.heap.size ≤ q) s.heap H locs → W p l e room_1 s m #[Value.ref b0] below meth c0 H locs 21 585 (lw_Z below #[Value.ref b0] s) (F0 m 428 ls [])) : ∀ (H : Heap) (locs : List Loc), va_P D vwCl (wC a y c (wR b y r [])) H → va_D (fun q : Nat => s.heap.size ≤ q) (wC a y c (wR b y r [])) → va_S (fun q : Nat => s.heap.size ≤ q) s.heap H locs → W p l e room_1 s m #[Value.ref b0] below meth c0 H locs 21 585 (lw_Z below #[Value.ref b0] s) (F0 m 389 ls []) := by
  obtain ⟨hx, hb, hr, hml, hown, hts0, hX, hbl, hlocks, hgv⟩ := C0
  have hown : s.vm.findClass RL = some m.cls := hown
  have hts : ∀ w ∈ wsL_law, w.before #[Value.ref b0] s = true := fun w h => hts0 w (wsL_law_in w h)
  have hA : ∀ q : Nat, s.heap.size ≤ q → (fun q : Nat => s.heap.size ≤ q) q := fun _ h => h
  have hbA : ¬ (fun q : Nat => s.heap.size ≤ q) b0 := Nat.not_le.mpr hbl
  intro H locs hP hD hS
  obtain ⟨hF, hnk, ht, h2z, hI⟩ := RN_SF hR.1
  refine lv_aload_n hx hb dL_law_389 rfl (lv_at hl 1 rfl) ?_
  refine callVi (rest := []) ⟨hx, hb, hml, hown, hts⟩ (mX1_records l y (wR b y r []) a c  ) (cwV 0 hts gL_law_X1_records rfl rfl rfl (by decide +kernel) ⟨Nat.le_of_ble_eq_true rfl, Nat.le_of_ble_eq_true rfl⟩) (va_recv hK hP (ci := 1) (q0 := 0) rfl rfl) hK hP hD hS hA hN rfl hl.1 rfl (Nat.le_of_ble_eq_true rfl) dL_law_390 ⟨Nat.le_of_ble_eq_true rfl, Nat.le_of_ble_eq_true rfl⟩ (fun H locs hP hD hS => ?_)
  refine lv_aload_n hx hb dL_law_393 rfl (lv_at hl 2 rfl) ?_
  have hPm := hP.sub (ws' := wR b y r (wC a y c [])) [8, 9, 10, 11, 12, 13, 14, 15, 16, 17, 18, 19, 20, 0, 1, 2, 3, 4, 5, 6, 7] rfl
  have hDm := hD.sub (ws' := wR b y r (wC a y c [])) [8, 9, 10, 11, 12, 13, 14, 15, 16, 17, 18, 19, 20, 0, 1, 2, 3, 4, 5, 6, 7] (by decide) rfl
  refine callVi (rest := [.int (nI (c_sz c))]) ⟨hx, hb, hml, hown, hts⟩ (mX2_records l y (wC a y c []) b r  ) (cwV 0 hts gL_law_X2_records rfl rfl rfl (by decide +kernel) ⟨Nat.le_of_ble_eq_true rfl, Nat.le_of_ble_eq_true rfl⟩) (va_recv hK hPm (ci := 2) (q0 := 0) rfl rfl) hK hPm hDm hS hA hN rfl hl.1 rfl (Nat.le_of_ble_eq_true rfl) dL_law_394 ⟨Nat.le_of_ble_eq_true rfl, Nat.le_of_ble_eq_true rfl⟩ (fun H locs hPm hDm hS => ?_)
  have hP := hPm.sub (ws' := wC a y c (wR b y r [])) [13, 14, 15, 16, 17, 18, 19, 20, 0, 1, 2, 3, 4, 5, 6, 7, 8, 9, 10, 11, 12] rfl
  have hD := hDm.sub (ws' := wC a y c (wR b y r [])) [13, 14, 15, 16, 17, 18, 19, 20, 0, 1, 2, 3, 4, 5, 6, 7, 8, 9, 10, 11, 12] (by decide) rfl
  refine lv_icmp_eq (tgt := 428) hx hb dL_law_397 (by decide) (fun _ => ?_) (fun h => absurd (by rw [hR.1.2.2.1]) h)
  exact k c r hR H locs hP hD hS
set_option maxHeartbeats 1000000 in
set_option maxRecDepth 100000 in
theorem law_12 {p : Program} {l : Launch} {e : Env} {s : State} {m : MethodId} {below : List Frame} {meth : Method} {c0 : Code} {D : va_G} {b0 L : Nat} {xs : Nat → Int32} (hL : L ≤ 2048) (C0 : lw_At p s m meth c0 b0 L xs) {a b : Nat → Nat} {y : Nat → ClassId} (hK : va_K D vwCl (tyA y) s) (hN : nwA s) {i : Nat} {c : CS} {r : RS} {ls : Array Slot} (hi : i + 4 ≤ L) (hR : RA c r) (hl : lv_has ls 4 [(0, .ref b0), (1, .ref (a 0)), (2, .ref (b 0)), (3, .int (nI i))]) (k : ∀ (c1 : CS) (r1 : RS), RA c1 r1 → ∀ (H : Heap) (locs : List Loc), va_P D vwCl (wC a y c1 (wR b y r1 [])) H → va_D (fun q : Nat => s.heap.size ≤ q) (wC a y c1 (wR b y r1 [])) → va_S (fun q : Nat => s.heap.size ≤ q) s.heap H locs → W p l e room_1 s m #[Value.ref b0] below meth c0 H locs 21 585 (lw_Z below #[Value.ref b0] s) (F0 m 428 ls [])) : ∀ (H : Heap) (locs : List Loc), va_P D vwCl (wC a y c (wR b y r [])) H → va_D (fun q : Nat => s.heap.size ≤ q) (wC a y c (wR b y r [])) → va_S (fun q : Nat => s.heap.size ≤ q) s.heap H locs → W p l e room_1 s m #[Value.ref b0] below meth c0 H locs 21 585 (lw_Z below #[Value.ref b0] s) (F0 m 402 ls []) := by
  obtain ⟨hx, hb, hr, hml, hown, hts0, hX, hbl, hlocks, hgv⟩ := C0
  have hown : s.vm.findClass RL = some m.cls := hown
  have hts : ∀ w ∈ wsL_law, w.before #[Value.ref b0] s = true := fun w h => hts0 w (wsL_law_in w h)
  have hA : ∀ q : Nat, s.heap.size ≤ q → (fun q : Nat => s.heap.size ≤ q) q := fun _ h => h
  have hbA : ¬ (fun q : Nat => s.heap.size ≤ q) b0 := Nat.not_le.mpr hbl
  intro H locs hP hD hS
  obtain ⟨hF, hnk, ht, h2z, hI⟩ := RN_SF hR.1
  refine lv_aload_n hx hb dL_law_402 rfl (lv_at hl 1 rfl) ?_
  refine callVi (rest := []) ⟨hx, hb, hml, hown, hts⟩ (mX1_taken l y (wR b y r []) a c  ) (cwV 0 hts gL_law_X1_taken rfl rfl rfl (by decide +kernel) ⟨Nat.le_of_ble_eq_true rfl, Nat.le_of_ble_eq_true rfl⟩) (va_recv hK hP (ci := 1) (q0 := 0) rfl rfl) hK hP hD hS hA hN rfl hl.1 rfl (Nat.le_of_ble_eq_true rfl) dL_law_403 ⟨Nat.le_of_ble_eq_true rfl, Nat.le_of_ble_eq_true rfl⟩ (fun H locs hP hD hS => ?_)
  refine lv_aload_n hx hb dL_law_406 rfl (lv_at hl 2 rfl) ?_
  have hPm := hP.sub (ws' := wR b y r (wC a y c [])) [8, 9, 10, 11, 12, 13, 14, 15, 16, 17, 18, 19, 20, 0, 1, 2, 3, 4, 5, 6, 7] rfl
  have hDm := hD.sub (ws' := wR b y r (wC a y c [])) [8, 9, 10, 11, 12, 13, 14, 15, 16, 17, 18, 19, 20, 0, 1, 2, 3, 4, 5, 6, 7] (by decide) rfl
  refine callVi (rest := [.int (nI (c_tk c))]) ⟨hx, hb, hml, hown, hts⟩ (mX2_taken l y (wC a y c []) b r  (by have := hI.1; exact this)) (cwV 0 hts gL_law_X2_taken rfl rfl rfl (by decide +kernel) ⟨Nat.le_of_ble_eq_true rfl, Nat.le_of_ble_eq_true rfl⟩) (va_recv hK hPm (ci := 2) (q0 := 0) rfl rfl) hK hPm hDm hS hA hN rfl hl.1 rfl (Nat.le_of_ble_eq_true rfl) dL_law_407 ⟨Nat.le_of_ble_eq_true rfl, Nat.le_of_ble_eq_true rfl⟩ (fun H locs hPm hDm hS => ?_)
  have hP := hPm.sub (ws' := wC a y c (wR b y r [])) [13, 14, 15, 16, 17, 18, 19, 20, 0, 1, 2, 3, 4, 5, 6, 7, 8, 9, 10, 11, 12] rfl
  have hD := hDm.sub (ws' := wC a y c (wR b y r [])) [13, 14, 15, 16, 17, 18, 19, 20, 0, 1, 2, 3, 4, 5, 6, 7, 8, 9, 10, 11, 12] (by decide) rfl
  refine lv_icmp_eq (tgt := 428) hx hb dL_law_410 (by decide) (fun _ => ?_) (fun h => absurd (by rw [hR.1.2.2.2.1]) h)
  exact k c r hR H locs hP hD hS
set_option maxHeartbeats 1000000 in
set_option maxRecDepth 100000 in
theorem law_13 {p : Program} {l : Launch} {e : Env} {s : State} {m : MethodId} {below : List Frame} {meth : Method} {c0 : Code} {D : va_G} {b0 L : Nat} {xs : Nat → Int32} (hL : L ≤ 2048) (C0 : lw_At p s m meth c0 b0 L xs) {a b : Nat → Nat} {y : Nat → ClassId} (hK : va_K D vwCl (tyA y) s) (hN : nwA s) {i : Nat} {c : CS} {r : RS} {ls : Array Slot} (hi : i + 4 ≤ L) (hR : RA c r) (hl : lv_has ls 4 [(0, .ref b0), (1, .ref (a 0)), (2, .ref (b 0)), (3, .int (nI i))]) (k : ∀ (c1 : CS) (r1 : RS), RA c1 r1 → ∀ (H : Heap) (locs : List Loc), va_P D vwCl (wC a y c1 (wR b y r1 [])) H → va_D (fun q : Nat => s.heap.size ≤ q) (wC a y c1 (wR b y r1 [])) → va_S (fun q : Nat => s.heap.size ≤ q) s.heap H locs → W p l e room_1 s m #[Value.ref b0] below meth c0 H locs 21 585 (lw_Z below #[Value.ref b0] s) (F0 m 428 ls [])) : ∀ (H : Heap) (locs : List Loc), va_P D vwCl (wC a y c (wR b y r [])) H → va_D (fun q : Nat => s.heap.size ≤ q) (wC a y c (wR b y r [])) → va_S (fun q : Nat => s.heap.size ≤ q) s.heap H locs → W p l e room_1 s m #[Value.ref b0] below meth c0 H locs 21 585 (lw_Z below #[Value.ref b0] s) (F0 m 415 ls []) := by
  obtain ⟨hx, hb, hr, hml, hown, hts0, hX, hbl, hlocks, hgv⟩ := C0
  have hown : s.vm.findClass RL = some m.cls := hown
  have hts : ∀ w ∈ wsL_law, w.before #[Value.ref b0] s = true := fun w h => hts0 w (wsL_law_in w h)
  have hA : ∀ q : Nat, s.heap.size ≤ q → (fun q : Nat => s.heap.size ≤ q) q := fun _ h => h
  have hbA : ¬ (fun q : Nat => s.heap.size ≤ q) b0 := Nat.not_le.mpr hbl
  intro H locs hP hD hS
  obtain ⟨hF, hnk, ht, h2z, hI⟩ := RN_SF hR.1
  refine lv_aload_n hx hb dL_law_415 rfl (lv_at hl 1 rfl) ?_
  refine callVi (rest := []) ⟨hx, hb, hml, hown, hts⟩ (mX1_meter l y (wR b y r []) a c  ) (cwV 0 hts gL_law_X1_meter rfl rfl rfl (by decide +kernel) ⟨Nat.le_of_ble_eq_true rfl, Nat.le_of_ble_eq_true rfl⟩) (va_recv hK hP (ci := 1) (q0 := 0) rfl rfl) hK hP hD hS hA hN rfl hl.1 rfl (Nat.le_of_ble_eq_true rfl) dL_law_416 ⟨Nat.le_of_ble_eq_true rfl, Nat.le_of_ble_eq_true rfl⟩ (fun H locs hP hD hS => ?_)
  refine lv_aload_n hx hb dL_law_419 rfl (lv_at hl 2 rfl) ?_
  have hPm := hP.sub (ws' := wR b y r (wC a y c [])) [8, 9, 10, 11, 12, 13, 14, 15, 16, 17, 18, 19, 20, 0, 1, 2, 3, 4, 5, 6, 7] rfl
  have hDm := hD.sub (ws' := wR b y r (wC a y c [])) [8, 9, 10, 11, 12, 13, 14, 15, 16, 17, 18, 19, 20, 0, 1, 2, 3, 4, 5, 6, 7] (by decide) rfl
  refine callVi (rest := [.int (c_ad c)]) ⟨hx, hb, hml, hown, hts⟩ (mX2_meter l y (wC a y c []) b r  ) (cwV 0 hts gL_law_X2_meter rfl rfl rfl (by decide +kernel) ⟨Nat.le_of_ble_eq_true rfl, Nat.le_of_ble_eq_true rfl⟩) (va_recv hK hPm (ci := 2) (q0 := 0) rfl rfl) hK hPm hDm hS hA hN rfl hl.1 rfl (Nat.le_of_ble_eq_true rfl) dL_law_420 ⟨Nat.le_of_ble_eq_true rfl, Nat.le_of_ble_eq_true rfl⟩ (fun H locs hPm hDm hS => ?_)
  have hP := hPm.sub (ws' := wC a y c (wR b y r [])) [13, 14, 15, 16, 17, 18, 19, 20, 0, 1, 2, 3, 4, 5, 6, 7, 8, 9, 10, 11, 12] rfl
  have hD := hDm.sub (ws' := wC a y c (wR b y r [])) [13, 14, 15, 16, 17, 18, 19, 20, 0, 1, 2, 3, 4, 5, 6, 7, 8, 9, 10, 11, 12] (by decide) rfl
  refine lv_icmp_eq (tgt := 428) hx hb dL_law_423 (by decide) (fun _ => ?_) (fun h => absurd (by have q := hR.1.1.2.2.2.2.2.2.2.2.2; rw [nI_0, Int32.add_zero] at q; exact q) h)
  exact k c r hR H locs hP hD hS
