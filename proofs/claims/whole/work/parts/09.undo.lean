theorem in_X1_X1_append : ∀ w ∈ wsX10, w ∈ wsX1_append := fun w h => List.mem_cons_of_mem _ (List.mem_append_left _ (List.mem_append_right _ (h)))
set_option maxHeartbeats 400000 in
set_option maxRecDepth 100000 in
theorem mX1_append (l : Launch) (y : Nat → ClassId) (t : va_W) (a : Nat → Nat) (c : CS) (k n : Nat) (hB : CB c) (hn0 : n ≤ 8) (h1 : k + n ≤ 32) (h2 : c_sz c < 20) (h3 : c_tk c + 1 + n ≤ 40) : MGi l yX1_append wsX1_append 4 86 [.ref (a 0), .int (nI k), .int (nI n)] (tyA y) (wC a y c t) (bI ((appendF k n c).1)) (wC a y ((appendF k n c).2) t) := by
  refine MGi.of (cc := cX1_append) (maxL := 3) (by decide) rfl (Nat.le_of_ble_eq_true rfl) ?_
  intro D p e s m below meth c0 A ls hx hb hr hml hown hlocks hts hK hP hD hA hN hl hS
  have hl : lv_has ls 3 [(0, .ref (a 0)), (1, .int (nI k)), (2, .int (nI n))] := hl
  have hinX1 : ∀ w ∈ u_ws RX1 TX1 10, w ∈ wsX1_append := in_X1_X1_append
  refine lv_aload_n hx hb dX1_append_0 rfl (lv_at hl 0 rfl) ?_
  refine lv_iload_n hx hb dX1_append_1 rfl (lv_at hl 2 rfl) ?_
  refine lv_iconst (v := nI 1) hx hb dX1_append_2 (by decide) ?_
  refine q_iadd hx hb dX1_append_3 ?_
  refine callVi (rest := []) ⟨hx, hb, hml, hown, hts⟩ (mX1_doPlainActs l y t a c (n + 1) ⟨hB.1, hB.2.1, hB.2.2⟩ (by omega)) (cwV 1 hts gX1_append_X1_doPlainActs rfl rfl rfl (by decide +kernel) ⟨Nat.le_of_ble_eq_true rfl, Nat.le_of_ble_eq_true rfl⟩) (va_recv hK hP (ci := 1) (q0 := 0) rfl rfl) hK hP hD hS hA hN rfl hl.1 rfl (Nat.le_of_ble_eq_true rfl) dX1_append_4 ⟨Nat.le_of_ble_eq_true rfl, Nat.le_of_ble_eq_true rfl⟩ (fun H locs hP hD hS => ?_)
  generalize hc1 : (runF (plainL (n + 1)) c).2 = c1 at hP hD
  have hP : va_P D vwCl (wC a y c1 t) H := hP
  have hD : va_D A (wC a y c1 t) := hD
  refine q_ifb_ne (tgt := 12) hx hb dX1_append_7 (by decide) (fun (h7 : ((runF (plainL (n + 1)) c).1) = true) => ?_) (fun (h7 : ((runF (plainL (n + 1)) c).1) = false) => ?_)
  · obtain ⟨u1, v1, e1, hv1⟩ := plain_ok h7
    rw [hc1] at e1
    have hB : CB c1 := hc1 ▸ CB_plain hB h7
    have g2 : c_sz c1 < 20 := (by rw [e1]; exact h2)
    have g3 : c_tk c1 + 1 + n ≤ 40 := (by rw [e1]; exact h3)
    refine lv_aload_n hx hb dX1_append_12 rfl (lv_at hl 0 rfl) ?_
    refine cg_r3 hx hb hts hinX1 hown hK hP (hts (.fieldLink RX1 19 "FencedWords" "log" "LFencedWords$Log;") (List.mem_of_getElem? (i := 1) rfl)) dX1_append_13 ?_
    refine lv_iload_n hx hb dX1_append_16 rfl (lv_at hl 1 rfl) ?_
    refine lv_iload_n hx hb dX1_append_17 rfl (lv_at hl 2 rfl) ?_
    refine lv_aload_n hx hb dX1_append_18 rfl (lv_at hl 0 rfl) ?_
    refine cg_r1 hx hb hts hinX1 hown hK hP (hts (.fieldLink RX1 9 "FencedWords" "seenValues" "[J") (List.mem_of_getElem? (i := 2) rfl)) dX1_append_19 ?_
    refine callVv (rest := []) ⟨hx, hb, hml, hown, hts⟩ (mX0_write l y t a c1 k n (by omega) (by assumption) (by assumption)) (cwV 3 hts gX1_append_X0_write rfl rfl rfl (by decide +kernel) ⟨Nat.le_of_ble_eq_true rfl, Nat.le_of_ble_eq_true rfl⟩) (va_recv hK hP (ci := 0) (q0 := 3) rfl rfl) hK hP hD hS hA hN rfl hl.1 rfl (Nat.le_of_ble_eq_true rfl) dX1_append_22 ⟨Nat.le_of_ble_eq_true rfl, Nat.le_of_ble_eq_true rfl⟩ (fun H locs hP hD hS => ?_)
    generalize hc2 : writeA k n c1 = c2 at hP hD
    have hP : va_P D vwCl (wC a y c2 t) H := hP
    have hD : va_D A (wC a y c2 t) := hD
    have hB : CB c2 := (by rw [← hc2]; exact CB_write hB g2)
    refine lv_aload_n hx hb dX1_append_25 rfl (lv_at hl 0 rfl) ?_
    refine lv_iconst (v := nI 2) hx hb dX1_append_26 (by decide) ?_
    refine callVi (rest := []) ⟨hx, hb, hml, hown, hts⟩ (mX1_doPlainActs l y t a c2 2 ⟨hB.1, hB.2.1, hB.2.2⟩ (by omega)) (cwV 1 hts gX1_append_X1_doPlainActs rfl rfl rfl (by decide +kernel) ⟨Nat.le_of_ble_eq_true rfl, Nat.le_of_ble_eq_true rfl⟩) (va_recv hK hP (ci := 1) (q0 := 0) rfl rfl) hK hP hD hS hA hN rfl hl.1 rfl (Nat.le_of_ble_eq_true rfl) dX1_append_27 ⟨Nat.le_of_ble_eq_true rfl, Nat.le_of_ble_eq_true rfl⟩ (fun H locs hP hD hS => ?_)
    generalize hc3 : (runF (plainL 2) c2).2 = c3 at hP hD
    have hP : va_P D vwCl (wC a y c3 t) H := hP
    have hD : va_D A (wC a y c3 t) := hD
    refine q_ifb_ne (tgt := 35) hx hb dX1_append_30 (by decide) (fun (h30 : ((runF (plainL 2) c2).1) = true) => ?_) (fun (h30 : ((runF (plainL 2) c2).1) = false) => ?_)
    · have hB : CB c3 := hc3 ▸ CB_plain hB h30
      refine lv_aload_n hx hb dX1_append_35 rfl (lv_at hl 0 rfl) ?_
      refine cg_r3 hx hb hts hinX1 hown hK hP (hts (.fieldLink RX1 19 "FencedWords" "log" "LFencedWords$Log;") (List.mem_of_getElem? (i := 1) rfl)) dX1_append_36 ?_
      refine callVv (rest := []) ⟨hx, hb, hml, hown, hts⟩ (mX0_keepNewest l y t a c3) (cwV 0 hts gX1_append_X0_keepNewest rfl rfl rfl (by decide +kernel) ⟨Nat.le_of_ble_eq_true rfl, Nat.le_of_ble_eq_true rfl⟩) (va_recv hK hP (ci := 0) (q0 := 3) rfl rfl) hK hP hD hS hA hN rfl hl.1 rfl (Nat.le_of_ble_eq_true rfl) dX1_append_39 ⟨Nat.le_of_ble_eq_true rfl, Nat.le_of_ble_eq_true rfl⟩ (fun H locs hP hD hS => ?_)
      generalize hc4 : keepN c3 = c4 at hP hD
      have hP : va_P D vwCl (wC a y c4 t) H := hP
      have hD : va_D A (wC a y c4 t) := hD
      have hB : CB c4 := (by rw [← hc4]; exact ⟨hB.1, fun h => (by cases h), hB.2.2⟩)
      refine lv_aload_n hx hb dX1_append_42 rfl (lv_at hl 0 rfl) ?_
      refine callVi (rest := []) ⟨hx, hb, hml, hown, hts⟩ (mX1_fence l y t a c4 ⟨hB.1, hB.2.1, hB.2.2⟩) (cwV 0 hts gX1_append_X1_fence rfl rfl rfl (by decide +kernel) ⟨Nat.le_of_ble_eq_true rfl, Nat.le_of_ble_eq_true rfl⟩) (va_recv hK hP (ci := 1) (q0 := 0) rfl rfl) hK hP hD hS hA hN rfl hl.1 rfl (Nat.le_of_ble_eq_true rfl) dX1_append_43 ⟨Nat.le_of_ble_eq_true rfl, Nat.le_of_ble_eq_true rfl⟩ (fun H locs hP hD hS => ?_)
      generalize hc5 : (endActF (fenceA c4)).2 = c5 at hP hD
      have hP : va_P D vwCl (wC a y c5 t) H := hP
      have hD : va_D A (wC a y c5 t) := hD
      exact retGz hx hb hr hlocks hK hP hD hS dX1_append_46 (by unfold appendF twoF; rw [if_pos h7, hc1, hc2, if_pos h30, hc3]; simp only [hc4]) (by unfold appendF twoF; rw [if_pos h7, hc1, hc2, if_pos h30, hc3]; simp only [hc4, hc5])
    · refine lv_iconst (v := nI 0) hx hb dX1_append_33 (by decide) ?_
      exact retGz hx hb hr hlocks hK hP hD hS dX1_append_34 (by unfold appendF twoF; rw [if_pos h7, hc1, hc2, if_neg (by rw [h30]; decide)]; rfl) (by unfold appendF twoF; rw [if_pos h7, hc1, hc2, if_neg (by rw [h30]; decide), hc3])
  · refine lv_iconst (v := nI 0) hx hb dX1_append_10 (by decide) ?_
    exact retGz hx hb hr hlocks hK hP hD hS dX1_append_11 (by unfold appendF; rw [if_neg (by rw [h7]; decide)]; rfl) (by unfold appendF; rw [if_neg (by rw [h7]; decide), hc1])
theorem in_X0_X1_clearLog : ∀ w ∈ wsX00, w ∈ wsX1_clearLog := fun w h => List.mem_cons_of_mem _ (List.mem_append_right _ (h))
theorem in_X1_X1_clearLog : ∀ w ∈ wsX10, w ∈ wsX1_clearLog := fun w h => List.mem_cons_of_mem _ (List.mem_append_left _ (List.mem_append_right _ (h)))
set_option maxHeartbeats 400000 in
set_option maxRecDepth 100000 in
theorem mX1_clearLog (l : Launch) (y : Nat → ClassId) (t : va_W) (a : Nat → Nat) (c : CS) (hB : CB c) (hnk : c_nk c = false) : MGi l yX1_clearLog wsX1_clearLog 4 86 [.ref (a 0)] (tyA y) (wC a y c t) (bI ((clearF c).1)) (wC a y ((clearF c).2) t) := by
  refine MGi.of (cc := cX1_clearLog) (maxL := 1) (by decide) rfl (Nat.le_of_ble_eq_true rfl) ?_
  intro D p e s m below meth c0 A ls hx hb hr hml hown hlocks hts hK hP hD hA hN hl hS
  have hl : lv_has ls 1 [(0, .ref (a 0))] := hl
  have hinX0 : ∀ w ∈ u_ws RX0 TX0 8, w ∈ wsX1_clearLog := in_X0_X1_clearLog
  have hinX1 : ∀ w ∈ u_ws RX1 TX1 10, w ∈ wsX1_clearLog := in_X1_X1_clearLog
  have hz := hB.1
  refine lv_aload_n hx hb dX1_clearLog_0 rfl (lv_at hl 0 rfl) ?_
  refine cg_r3 hx hb hts hinX1 hown hK hP (hts (.fieldLink RX1 19 "FencedWords" "log" "LFencedWords$Log;") (List.mem_of_getElem? (i := 1) rfl)) dX1_clearLog_1 ?_
  refine cn_sz (host := "FencedWords") hx hb hts hinX0 hown hK hP (va_Nw.use rfl hN.1) dX1_clearLog_4 ?_
  refine q_if_ne (tgt := 12) hx hb (show (c_sz c) < 2 ^ 31 by omega) dX1_clearLog_7 (by decide) (fun (h7 : ¬ (c_sz c) = 0) => ?_) (fun (h7 : (c_sz c) = 0) => ?_)
  · refine lv_aload_n hx hb dX1_clearLog_12 rfl (lv_at hl 0 rfl) ?_
    refine cg_r3 hx hb hts hinX1 hown hK hP (hts (.fieldLink RX1 19 "FencedWords" "log" "LFencedWords$Log;") (List.mem_of_getElem? (i := 1) rfl)) dX1_clearLog_13 ?_
    refine callVv (rest := []) ⟨hx, hb, hml, hown, hts⟩ (mX0_crossOut l y t a c) (cwV 0 hts gX1_clearLog_X0_crossOut rfl rfl rfl (by decide +kernel) ⟨Nat.le_of_ble_eq_true rfl, Nat.le_of_ble_eq_true rfl⟩) (va_recv hK hP (ci := 0) (q0 := 3) rfl rfl) hK hP hD hS hA hN rfl hl.1 rfl (Nat.le_of_ble_eq_true rfl) dX1_clearLog_16 ⟨Nat.le_of_ble_eq_true rfl, Nat.le_of_ble_eq_true rfl⟩ (fun H locs hP hD hS => ?_)
    generalize hc1 : crossA c = c1 at hP hD
    have hP : va_P D vwCl (wC a y c1 t) H := hP
    have hD : va_D A (wC a y c1 t) := hD
    have hB : CB c1 := (by rw [← hc1]; exact ⟨hB.1, hB.2.1, hB.2.2⟩)
    have hnk : c_nk c1 = false := (by rw [← hc1]; exact hnk)
    refine lv_aload_n hx hb dX1_clearLog_19 rfl (lv_at hl 0 rfl) ?_
    refine lv_iconst (v := nI 2) hx hb dX1_clearLog_20 (by decide) ?_
    refine callVi (rest := []) ⟨hx, hb, hml, hown, hts⟩ (mX1_doPlainActs l y t a c1 2 ⟨hB.1, hB.2.1, hB.2.2⟩ (by omega)) (cwV 1 hts gX1_clearLog_X1_doPlainActs rfl rfl rfl (by decide +kernel) ⟨Nat.le_of_ble_eq_true rfl, Nat.le_of_ble_eq_true rfl⟩) (va_recv hK hP (ci := 1) (q0 := 0) rfl rfl) hK hP hD hS hA hN rfl hl.1 rfl (Nat.le_of_ble_eq_true rfl) dX1_clearLog_21 ⟨Nat.le_of_ble_eq_true rfl, Nat.le_of_ble_eq_true rfl⟩ (fun H locs hP hD hS => ?_)
    generalize hc2 : (runF (plainL 2) c1).2 = c2 at hP hD
    have hP : va_P D vwCl (wC a y c2 t) H := hP
    have hD : va_D A (wC a y c2 t) := hD
    refine q_ifb_ne (tgt := 29) hx hb dX1_clearLog_24 (by decide) (fun (h24 : ((runF (plainL 2) c1).1) = true) => ?_) (fun (h24 : ((runF (plainL 2) c1).1) = false) => ?_)
    · obtain ⟨u1, v1, e1, hv1⟩ := plain_ok h24
      rw [hc2] at e1
      have hB : CB c2 := hc2 ▸ CB_plain hB h24
      have hnk : c_nk c2 = false := (by rw [e1]; exact hnk)
      refine lv_aload_n hx hb dX1_clearLog_29 rfl (lv_at hl 0 rfl) ?_
      refine cg_r3 hx hb hts hinX1 hown hK hP (hts (.fieldLink RX1 19 "FencedWords" "log" "LFencedWords$Log;") (List.mem_of_getElem? (i := 1) rfl)) dX1_clearLog_30 ?_
      refine callVv (rest := []) ⟨hx, hb, hml, hown, hts⟩ (mX0_dropAll l y t a c2) (cwV 0 hts gX1_clearLog_X0_dropAll rfl rfl rfl (by decide +kernel) ⟨Nat.le_of_ble_eq_true rfl, Nat.le_of_ble_eq_true rfl⟩) (va_recv hK hP (ci := 0) (q0 := 3) rfl rfl) hK hP hD hS hA hN rfl hl.1 rfl (Nat.le_of_ble_eq_true rfl) dX1_clearLog_33 ⟨Nat.le_of_ble_eq_true rfl, Nat.le_of_ble_eq_true rfl⟩ (fun H locs hP hD hS => ?_)
      generalize hc3 : dropA c2 = c3 at hP hD
      have hP : va_P D vwCl (wC a y c3 t) H := hP
      have hD : va_D A (wC a y c3 t) := hD
      have hB : CB c3 := (by rw [← hc3]; exact ⟨Nat.zero_le _, fun h => absurd (hnk.symm.trans h) (by decide), hB.2.2⟩)
      refine lv_aload_n hx hb dX1_clearLog_36 rfl (lv_at hl 0 rfl) ?_
      refine callVi (rest := []) ⟨hx, hb, hml, hown, hts⟩ (mX1_fence l y t a c3 ⟨hB.1, hB.2.1, hB.2.2⟩) (cwV 0 hts gX1_clearLog_X1_fence rfl rfl rfl (by decide +kernel) ⟨Nat.le_of_ble_eq_true rfl, Nat.le_of_ble_eq_true rfl⟩) (va_recv hK hP (ci := 1) (q0 := 0) rfl rfl) hK hP hD hS hA hN rfl hl.1 rfl (Nat.le_of_ble_eq_true rfl) dX1_clearLog_37 ⟨Nat.le_of_ble_eq_true rfl, Nat.le_of_ble_eq_true rfl⟩ (fun H locs hP hD hS => ?_)
      generalize hc4 : (endActF (fenceA c3)).2 = c4 at hP hD
      have hP : va_P D vwCl (wC a y c4 t) H := hP
      have hD : va_D A (wC a y c4 t) := hD
      exact retGz hx hb hr hlocks hK hP hD hS dX1_clearLog_40 (by unfold clearF twoF; rw [if_neg h7, hc1, if_pos h24, hc2]; simp only [hc3]) (by unfold clearF twoF; rw [if_neg h7, hc1, if_pos h24, hc2]; simp only [hc3, hc4])
    · refine lv_iconst (v := nI 0) hx hb dX1_clearLog_27 (by decide) ?_
      exact retGz hx hb hr hlocks hK hP hD hS dX1_clearLog_28 (by unfold clearF twoF; rw [if_neg h7, hc1, if_neg (by rw [h24]; decide)]; rfl) (by unfold clearF twoF; rw [if_neg h7, hc1, if_neg (by rw [h24]; decide), hc2])
  · refine lv_iconst (v := nI 1) hx hb dX1_clearLog_10 (by decide) ?_
    exact retGz hx hb hr hlocks hK hP hD hS dX1_clearLog_11 (by unfold clearF; rw [if_pos h7]; rfl) (by unfold clearF; rw [if_pos h7])
set_option maxHeartbeats 400000 in
set_option maxRecDepth 100000 in
theorem mX1_keepLines (l : Launch) (y : Nat → ClassId) (t : va_W) (a : Nat → Nat) (c : CS) (x : Int32) (hB : CB c) : MGi l yX1_keepLines wsX1_keepLines 4 85 [.ref (a 0), .int x] (tyA y) (wC a y c t) (bI ((keepLinesF x c).1)) (wC a y ((keepLinesF x c).2) t) := by
  refine MGi.of (cc := cX1_keepLines) (maxL := 3) (by decide) rfl (Nat.le_of_ble_eq_true rfl) ?_
  intro D p e s m below meth c0 A ls hx hb hr hml hown hlocks hts hK hP hD hA hN hl hS
  have hl : lv_has ls 3 [(0, .ref (a 0)), (1, .int x)] := hl
  refine lv_iload_n hx hb dX1_keepLines_0 rfl (lv_at hl 1 rfl) ?_
  refine lv_if_ne (tgt := 6) hx hb dX1_keepLines_1 (by decide) (fun (h1 : ¬ x = 0) => ?_) (fun (h1 : x = 0) => ?_)
  · refine lv_iconst (v := nI 0) hx hb dX1_keepLines_6 (by decide) ?_
    refine lv_istore_n (lv' := [(2, .int (nI 0)), (0, .ref (a 0)), (1, .int x)]) hx hb dX1_keepLines_7 rfl hl (by decide) rfl (fun ls hl => ?_)
    have loop : ∀ (n8 : Nat) (i : Nat) (d : CS) (H : Heap) (locs : List Loc) (ls : Array Slot), (i ≤ 4) → (5 ≤ i + n8) → (CB d) → (runF (linesL x 4) c = runF (linesL x (4 - i)) d) → va_P D vwCl (wC a y d t) H → va_D A (wC a y d t) → va_S A s.heap H locs → lv_has ls 3 [(0, .ref (a 0)), (1, .int x), (2, .int (nI i))] → W p l e ({ frames := 4, cells := 0, slots := 0, locals := 85 }) s m [.ref (a 0), .int x].toArray below meth c0 H locs 0 0 (GQi below D (tyA y) A (bI ((keepLinesF x c).1)) (wC a y ((keepLinesF x c).2) t) [.ref (a 0), .int x].toArray s) (F0 m 8 ls []) := by
      intro n8
      induction n8 with
      | zero =>
        intro i d H locs ls hi hn hB hE hP hD hS hl
        omega
      | succ n8 ih8 =>
        intro i d H locs ls hi hn hB hE hP hD hS hl
        refine lv_iload_n hx hb dX1_keepLines_8 rfl (lv_at hl 2 rfl) ?_
        refine lv_iconst (v := nI 4) hx hb dX1_keepLines_9 (by decide) ?_
        refine q_icmp_ge (tgt := 38) hx hb (show i < 2 ^ 31 by omega) (show 4 < 2 ^ 31 by omega) dX1_keepLines_10 (by decide) (fun (h10 : 4 ≤ i) => ?_) (fun (h10 : i < 4) => ?_)
        · refine lv_aload_n hx hb dX1_keepLines_38 rfl (lv_at hl 0 rfl) ?_
          refine callVi (rest := []) ⟨hx, hb, hml, hown, hts⟩ (mX1_fence l y t a d ⟨hB.1, hB.2.1, hB.2.2⟩) (cwV 0 hts gX1_keepLines_X1_fence rfl rfl rfl (by decide +kernel) ⟨Nat.le_of_ble_eq_true rfl, Nat.le_of_ble_eq_true rfl⟩) (va_recv hK hP (ci := 1) (q0 := 0) rfl rfl) hK hP hD hS hA hN rfl hl.1 rfl (Nat.le_of_ble_eq_true rfl) dX1_keepLines_39 ⟨Nat.le_of_ble_eq_true rfl, Nat.le_of_ble_eq_true rfl⟩ (fun H locs hP hD hS => ?_)
          generalize hc1 : (endActF (fenceA d)).2 = c1 at hP hD
          have hP : va_P D vwCl (wC a y c1 t) H := hP
          have hD : va_D A (wC a y c1 t) := hD
          exact retGz hx hb hr hlocks hK hP hD hS dX1_keepLines_42 (by unfold keepLinesF; rw [if_neg h1, hE, show 4 - i = 0 by omega]; show _ = bI (runF [fenceA] d).1; rw [runF_one]) (by unfold keepLinesF; rw [if_neg h1, hE, show 4 - i = 0 by omega]; show _ = wC a y (runF [fenceA] d).2 t; rw [runF_one, hc1])
        · refine lv_iload_n hx hb dX1_keepLines_13 rfl (lv_at hl 1 rfl) ?_
          refine lv_i2l hx hb dX1_keepLines_14 rfl ?_
          refine lv_iload_n hx hb dX1_keepLines_15 rfl (lv_at hl 2 rfl) ?_
          refine callSi (rest := []) ⟨hx, hb, hml, hown, hts⟩ (mX1_hasBit l y _ x.toInt64 i (by omega)) (va_cwS 2 hts gX1_keepLines_X1_hasBit rfl rfl rfl (by decide +kernel) ⟨Nat.le_of_ble_eq_true rfl, Nat.le_of_ble_eq_true rfl⟩) hK hP hD hS hA hN rfl hl.1 rfl (Nat.le_of_ble_eq_true rfl) dX1_keepLines_16 ⟨Nat.le_of_ble_eq_true rfl, Nat.le_of_ble_eq_true rfl⟩ (fun H locs hP hD hS => ?_)
          refine q_ifb_eq (tgt := 32) hx hb dX1_keepLines_19 (by decide) (fun (h19 : (hbL x.toInt64 i) = false) => ?_) (fun (h19 : (hbL x.toInt64 i) = true) => ?_)
          · refine lv_iinc (v := nI (i + 1)) (lv' := [(2, .int (nI (i + 1))), (0, .ref (a 0)), (1, .int x)]) hx hb dX1_keepLines_32 hl (k := 2) rfl (nI_add i 1) (by decide) rfl (fun ls hl => ?_)
            refine lv_goto (tgt := 8) hx hb dX1_keepLines_35 (by decide) ?_
            exact ih8 (i + 1) d _ _ _ (by omega) (by omega) hB (by rw [hE, linesL_f (by omega) h19]) hP hD hS (lv_sub hl [1, 2, 0] rfl)
          · refine lv_aload_n hx hb dX1_keepLines_22 rfl (lv_at hl 0 rfl) ?_
            refine lv_iload_n hx hb dX1_keepLines_23 rfl (lv_at hl 2 rfl) ?_
            refine callVi (rest := []) ⟨hx, hb, hml, hown, hts⟩ (mX1_flush l y t a d i ⟨hB.1, hB.2.1, hB.2.2⟩) (cwV 1 hts gX1_keepLines_X1_flush rfl rfl rfl (by decide +kernel) ⟨Nat.le_of_ble_eq_true rfl, Nat.le_of_ble_eq_true rfl⟩) (va_recv hK hP (ci := 1) (q0 := 0) rfl rfl) hK hP hD hS hA hN rfl hl.1 rfl (Nat.le_of_ble_eq_true rfl) dX1_keepLines_24 ⟨Nat.le_of_ble_eq_true rfl, Nat.le_of_ble_eq_true rfl⟩ (fun H locs hP hD hS => ?_)
            generalize hc2 : (endActF (flushA i d)).2 = c2 at hP hD
            have hP : va_P D vwCl (wC a y c2 t) H := hP
            have hD : va_D A (wC a y c2 t) := hD
            refine q_ifb_ne (tgt := 32) hx hb dX1_keepLines_27 (by decide) (fun (h27 : ((endActF (flushA i d)).1) = true) => ?_) (fun (h27 : ((endActF (flushA i d)).1) = false) => ?_)
            · refine lv_iinc (v := nI (i + 1)) (lv' := [(2, .int (nI (i + 1))), (0, .ref (a 0)), (1, .int x)]) hx hb dX1_keepLines_32 hl (k := 2) rfl (nI_add i 1) (by decide) rfl (fun ls hl => ?_)
              refine lv_goto (tgt := 8) hx hb dX1_keepLines_35 (by decide) ?_
              exact ih8 (i + 1) c2 _ _ _ (by omega) (by omega) (hc2 ▸ CB_ok (c := flushA i d) ⟨hB.1, hB.2.1, hB.2.2⟩ h27) (by rw [hE, linesL_t (by omega) h19, runF_t h27, hc2]) hP hD hS (lv_sub hl [1, 2, 0] rfl)
            · refine lv_iconst (v := nI 0) hx hb dX1_keepLines_30 (by decide) ?_
              exact retGz hx hb hr hlocks hK hP hD hS dX1_keepLines_31 (by unfold keepLinesF; rw [if_neg h1, hE, linesL_t (by omega) h19, runF_f h27]; rfl) (by unfold keepLinesF; rw [if_neg h1, hE, linesL_t (by omega) h19, runF_f h27, hc2])
    exact loop 5 0 c _ _ _ (by omega) (by omega) hB rfl hP hD hS (lv_sub hl [1, 2, 0] rfl)
  · refine lv_iconst (v := nI 1) hx hb dX1_keepLines_4 (by decide) ?_
    exact retGz hx hb hr hlocks hK hP hD hS dX1_keepLines_5 (by unfold keepLinesF; rw [if_pos h1]; rfl) (by unfold keepLinesF; rw [if_pos h1])
theorem in_X0_X1_storeOldValues : ∀ w ∈ wsX00, w ∈ wsX1_storeOldValues := fun w h => List.mem_cons_of_mem _ (List.mem_append_right _ (h))
theorem in_X1_X1_storeOldValues : ∀ w ∈ wsX10, w ∈ wsX1_storeOldValues := fun w h => List.mem_cons_of_mem _ (List.mem_append_left _ (List.mem_append_right _ (h)))
set_option maxHeartbeats 400000 in
set_option maxRecDepth 100000 in
theorem mX1_storeOldValues (l : Launch) (y : Nat → ClassId) (t : va_W) (a : Nat → Nat) (c : CS) (hF : SF c) : MGi l yX1_storeOldValues wsX1_storeOldValues 4 87 [.ref (a 0)] (tyA y) (wC a y c t) (bI ((stOldF c).1)) (wC a y ((stOldF c).2) t) := by
  refine MGi.of (cc := cX1_storeOldValues) (maxL := 3) (by decide) rfl (Nat.le_of_ble_eq_true rfl) ?_
  intro D p e s m below meth c0 A ls hx hb hr hml hown hlocks hts hK hP hD hA hN hl hS
  have hl : lv_has ls 3 [(0, .ref (a 0))] := hl
  have hinX0 : ∀ w ∈ u_ws RX0 TX0 8, w ∈ wsX1_storeOldValues := in_X0_X1_storeOldValues
  have hinX1 : ∀ w ∈ u_ws RX1 TX1 10, w ∈ wsX1_storeOldValues := in_X1_X1_storeOldValues
  have hz := hF.1.1
  refine lv_aload_n hx hb dX1_storeOldValues_0 rfl (lv_at hl 0 rfl) ?_
  refine cg_r3 hx hb hts hinX1 hown hK hP (hts (.fieldLink RX1 19 "FencedWords" "log" "LFencedWords$Log;") (List.mem_of_getElem? (i := 1) rfl)) dX1_storeOldValues_1 ?_
  refine cn_sz (host := "FencedWords") hx hb hts hinX0 hown hK hP (va_Nw.use rfl hN.1) dX1_storeOldValues_4 ?_
  refine lv_iconst (v := nI 1) hx hb dX1_storeOldValues_7 (by decide) ?_
  refine lv_isub hx hb dX1_storeOldValues_8 ?_
  refine lv_istore_n (lv' := [(1, .int ((nI (c_sz c)) - (nI 1))), (0, .ref (a 0))]) hx hb dX1_storeOldValues_9 rfl hl (by decide) rfl (fun ls hl => ?_)
  have loopR : ∀ (n10 : Nat) (k : Nat) (d : CS) (H : Heap) (locs : List Loc) (ls : Array Slot), (k ≤ c_sz d) → (k + 1 ≤ n10) → (SF d) → (stOldF c = runF (soR d k) d) → va_P D vwCl (wC a y d t) H → va_D A (wC a y d t) → va_S A s.heap H locs → lv_has ls 3 [(0, .ref (a 0)), (1, .int (nI k - nI 1))] → W p l e ({ frames := 4, cells := 0, slots := 0, locals := 87 }) s m [.ref (a 0)].toArray below meth c0 H locs 0 0 (GQi below D (tyA y) A (bI ((stOldF c).1)) (wC a y ((stOldF c).2) t) [.ref (a 0)].toArray s) (F0 m 10 ls []) := by
    intro n10
    induction n10 with
    | zero =>
      intro k d H locs ls hi hn hF hE hP hD hS hl
      omega
    | succ n10 ih10 =>
      intro k d H locs ls hi hn hF hE hP hD hS hl
      refine lv_iload_n hx hb dX1_storeOldValues_10 rfl (lv_at hl 1 rfl) ?_
      refine lv_if_lt (tgt := 70) hx hb dX1_storeOldValues_11 (by decide) (fun (h11 : (nI k - nI 1) < 0) => ?_) (fun (h11 : ¬ (nI k - nI 1) < 0) => ?_)
      · have hk0 : k = 0 := (sub1_neg (by have := hF.1.1; omega)).mp h11
        subst hk0
        refine lv_iconst (v := nI 1) hx hb dX1_storeOldValues_70 (by decide) ?_
        exact retGz hx hb hr hlocks hK hP hD hS dX1_storeOldValues_71 (by rw [hE]; rfl) (by rw [hE]; rfl)
      · obtain ⟨j, rfl⟩ : ∃ j, k = j + 1 := ⟨k - 1, by have q : k ≠ 0 := fun q => h11 ((sub1_neg (by have := hF.1.1; omega)).mpr q); omega⟩
        rw [sub1_s j] at hl
        have hj := hF.2 j (by omega)
        have hz := hF.1.1
        refine lv_iconst (v := nI 0) hx hb dX1_storeOldValues_14 (by decide) ?_
        refine lv_istore_n (lv' := [(2, .int (nI 0)), (0, .ref (a 0)), (1, .int (nI j))]) hx hb dX1_storeOldValues_15 rfl hl (by decide) rfl (fun ls hl => ?_)
        have loopI : ∀ (n16 : Nat) (i : Nat) (d : CS) (H : Heap) (locs : List Loc) (ls : Array Slot), (j < c_sz d) → (i ≤ c_co d j) → (c_co d j + 1 ≤ i + n16) → (SF d) → (stOldF c = runF (soI d j (c_co d j - i) ++ soR d j) d) → va_P D vwCl (wC a y d t) H → va_D A (wC a y d t) → va_S A s.heap H locs → lv_has ls 3 [(0, .ref (a 0)), (1, .int (nI j)), (2, .int (nI i))] → W p l e ({ frames := 4, cells := 0, slots := 0, locals := 87 }) s m [.ref (a 0)].toArray below meth c0 H locs 0 0 (GQi below D (tyA y) A (bI ((stOldF c).1)) (wC a y ((stOldF c).2) t) [.ref (a 0)].toArray s) (F0 m 16 ls []) := by
          intro n16
          induction n16 with
          | zero =>
            intro i d H locs ls hjs hi hn2 hF hE hP hD hS hl
            omega
          | succ n16 ih16 =>
            intro i d H locs ls hjs hi hn2 hF hE hP hD hS hl
            have hj := hF.2 j hjs
            have hB := hF.1
            have hz := hF.1.1
            refine lv_iload_n hx hb dX1_storeOldValues_16 rfl (lv_at hl 2 rfl) ?_
            refine lv_aload_n hx hb dX1_storeOldValues_17 rfl (lv_at hl 0 rfl) ?_
            refine cg_r3 hx hb hts hinX1 hown hK hP (hts (.fieldLink RX1 19 "FencedWords" "log" "LFencedWords$Log;") (List.mem_of_getElem? (i := 1) rfl)) dX1_storeOldValues_18 ?_
            refine cn_r5 (host := "FencedWords") hx hb hts hinX0 hown hK hP (va_Nw.use rfl hN.2.2.1) dX1_storeOldValues_21 ?_
            refine lv_iload_n hx hb dX1_storeOldValues_24 rfl (lv_at hl 1 rfl) ?_
            refine cl_co hx hb hK hP (show j < 20 by omega) dX1_storeOldValues_25 ?_
            refine q_icmp_ge (tgt := 64) hx hb (show i < 2 ^ 31 by omega) (show (c_co d j) < 2 ^ 31 by omega) dX1_storeOldValues_26 (by decide) (fun (h26 : (c_co d j) ≤ i) => ?_) (fun (h26 : i < (c_co d j)) => ?_)
            · refine lv_iinc (v := nI j + (-1)) (lv' := [(1, .int (nI j + (-1))), (0, .ref (a 0)), (2, .int (nI i))]) hx hb dX1_storeOldValues_64 hl (k := 1) rfl rfl (by decide) rfl (fun ls hl => ?_)
              refine lv_goto (tgt := 10) hx hb dX1_storeOldValues_67 (by decide) ?_
              rw [dec_s j] at hl
              exact ih10 j d _ _ _ (by omega) (by omega) hF (by rw [hE, so_n h26]) hP hD hS (lv_sub hl [1, 0] rfl)
            · refine lv_aload_n hx hb dX1_storeOldValues_29 rfl (lv_at hl 0 rfl) ?_
              refine lv_aload_n hx hb dX1_storeOldValues_30 rfl (lv_at hl 0 rfl) ?_
              refine cg_r3 hx hb hts hinX1 hown hK hP (hts (.fieldLink RX1 19 "FencedWords" "log" "LFencedWords$Log;") (List.mem_of_getElem? (i := 1) rfl)) dX1_storeOldValues_31 ?_
              refine cn_r4 (host := "FencedWords") hx hb hts hinX0 hown hK hP (va_Nw.use rfl hN.2.2.2.1) dX1_storeOldValues_34 ?_
              refine lv_iload_n hx hb dX1_storeOldValues_37 rfl (lv_at hl 1 rfl) ?_
              refine cl_fi hx hb hK hP (show j < 20 by omega) dX1_storeOldValues_38 ?_
              refine lv_iload_n hx hb dX1_storeOldValues_39 rfl (lv_at hl 2 rfl) ?_
              refine q_iadd hx hb dX1_storeOldValues_40 ?_
              refine lv_aload_n hx hb dX1_storeOldValues_41 rfl (lv_at hl 0 rfl) ?_
              refine cg_r3 hx hb hts hinX1 hown hK hP (hts (.fieldLink RX1 19 "FencedWords" "log" "LFencedWords$Log;") (List.mem_of_getElem? (i := 1) rfl)) dX1_storeOldValues_42 ?_
              refine lv_iload_n hx hb dX1_storeOldValues_45 rfl (lv_at hl 1 rfl) ?_
              refine lv_iload_n hx hb dX1_storeOldValues_46 rfl (lv_at hl 2 rfl) ?_
              refine callVl (rest := [.int (nI ((c_fi d j) + i)), .ref (a 0)]) ⟨hx, hb, hml, hown, hts⟩ (mX0_oldValue l y t a d j i (by omega) (by omega)) (cwV 2 hts gX1_storeOldValues_X0_oldValue rfl rfl rfl (by decide +kernel) ⟨Nat.le_of_ble_eq_true rfl, Nat.le_of_ble_eq_true rfl⟩) (va_recv hK hP (ci := 0) (q0 := 3) rfl rfl) hK hP hD hS hA hN rfl hl.1 rfl (Nat.le_of_ble_eq_true rfl) dX1_storeOldValues_47 ⟨Nat.le_of_ble_eq_true rfl, Nat.le_of_ble_eq_true rfl⟩ (fun H locs hP hD hS => ?_)
              refine callVi (rest := []) ⟨hx, hb, hml, hown, hts⟩ (mX1_storeValue l y t a d ((c_fi d j) + i) (c_ce d (c_sc d j + 1 + i)) ⟨hB.1, hB.2.1, hB.2.2⟩ (by omega)) (cwV 2 hts gX1_storeOldValues_X1_storeValue rfl rfl rfl (by decide +kernel) ⟨Nat.le_of_ble_eq_true rfl, Nat.le_of_ble_eq_true rfl⟩) (va_recv hK hP (ci := 1) (q0 := 0) rfl rfl) hK hP hD hS hA hN rfl hl.1 rfl (Nat.le_of_ble_eq_true rfl) dX1_storeOldValues_50 ⟨Nat.le_of_ble_eq_true rfl, Nat.le_of_ble_eq_true rfl⟩ (fun H locs hP hD hS => ?_)
              generalize hc1 : (endActF (storeA ((c_fi d j) + i) (c_ce d (c_sc d j + 1 + i)) d)).2 = c1 at hP hD
              have hP : va_P D vwCl (wC a y c1 t) H := hP
              have hD : va_D A (wC a y c1 t) := hD
              refine q_ifb_ne (tgt := 58) hx hb dX1_storeOldValues_53 (by decide) (fun (h53 : ((endActF (storeA ((c_fi d j) + i) (c_ce d (c_sc d j + 1 + i)) d)).1) = true) => ?_) (fun (h53 : ((endActF (storeA ((c_fi d j) + i) (c_ce d (c_sc d j + 1 + i)) d)).1) = false) => ?_)
              · obtain ⟨v1, el, -⟩ := endAct_ok h53
                rw [hc1] at el
                refine lv_iinc (v := nI (i + 1)) (lv' := [(2, .int (nI (i + 1))), (0, .ref (a 0)), (1, .int (nI j))]) hx hb dX1_storeOldValues_58 hl (k := 2) rfl (nI_add i 1) (by decide) rfl (fun ls hl => ?_)
                refine lv_goto (tgt := 16) hx hb dX1_storeOldValues_61 (by decide) ?_
                exact ih16 (i + 1) c1 _ _ _ (by rw [el]; exact hjs) (by rw [el]; exact h26) (by rw [el]; exact (by omega : c_co d j + 1 ≤ i + 1 + n16)) (hc1 ▸ SF_ok (c := storeA _ _ d) hF h53) (by rw [hE]; exact so_t h26 h53 hc1) hP hD hS (lv_sub hl [1, 2, 0] rfl)
              · refine lv_iconst (v := nI 0) hx hb dX1_storeOldValues_56 (by decide) ?_
                exact retGz hx hb hr hlocks hK hP hD hS dX1_storeOldValues_57 (by rw [hE, so_f h26 h53]; rfl) (by rw [hE, so_f h26 h53, hc1])
        exact loopI (c_co d j + 1) 0 d _ _ _ (by omega) (by omega) (by omega) hF hE hP hD hS (lv_sub hl [1, 2, 0] rfl)
  exact loopR (c_sz c + 1) (c_sz c) c _ _ _ (by omega) (by omega) hF rfl hP hD hS (lv_sub hl [1, 0] rfl)
theorem in_X1_X1_undo : ∀ w ∈ wsX10, w ∈ wsX1_undo := fun w h => List.mem_cons_of_mem _ (List.mem_append_left _ (List.mem_append_right _ (h)))
set_option maxHeartbeats 400000 in
set_option maxRecDepth 100000 in
theorem mX1_undo (l : Launch) (y : Nat → ClassId) (t : va_W) (a : Nat → Nat) (c : CS) (hF : SF c) (hnk : c_nk c = false) : MGi l yX1_undo wsX1_undo 5 109 [.ref (a 0)] (tyA y) (wC a y c t) (bI ((undoF c).1)) (wC a y ((undoF c).2) t) := by
  refine MGi.of (cc := cX1_undo) (maxL := 1) (by decide) rfl (Nat.le_of_ble_eq_true rfl) ?_
  intro D p e s m below meth c0 A ls hx hb hr hml hown hlocks hts hK hP hD hA hN hl hS
  have hl : lv_has ls 1 [(0, .ref (a 0))] := hl
  have hinX1 : ∀ w ∈ u_ws RX1 TX1 10, w ∈ wsX1_undo := in_X1_X1_undo
  refine lv_aload_n hx hb dX1_undo_0 rfl (lv_at hl 0 rfl) ?_
  refine callVi (rest := []) ⟨hx, hb, hml, hown, hts⟩ (mX1_storeOldValues l y t a c (by assumption)) (cwV 0 hts gX1_undo_X1_storeOldValues rfl rfl rfl (by decide +kernel) ⟨Nat.le_of_ble_eq_true rfl, Nat.le_of_ble_eq_true rfl⟩) (va_recv hK hP (ci := 1) (q0 := 0) rfl rfl) hK hP hD hS hA hN rfl hl.1 rfl (Nat.le_of_ble_eq_true rfl) dX1_undo_1 ⟨Nat.le_of_ble_eq_true rfl, Nat.le_of_ble_eq_true rfl⟩ (fun H locs hP hD hS => ?_)
  generalize hc1 : (stOldF c).2 = c1 at hP hD
  have hP : va_P D vwCl (wC a y c1 t) H := hP
  have hD : va_D A (wC a y c1 t) := hD
  refine q_ifb_eq (tgt := 32) hx hb dX1_undo_4 (by decide) (fun (h4 : ((stOldF c).1) = false) => ?_) (fun (h4 : ((stOldF c).1) = true) => ?_)
  · refine lv_iconst (v := nI 0) hx hb dX1_undo_32 (by decide) ?_
    exact retGz hx hb hr hlocks hK hP hD hS dX1_undo_33 (by unfold undoF; rw [if_neg (by rw [h4]; decide), hc1]; rfl) (by unfold undoF; rw [if_neg (by rw [h4]; decide), hc1])
  · have hN1 : SN c1 := hc1 ▸ SN_stOld ⟨hF, hnk⟩ h4
    have hz := hN1.1.1.1
    have hf : ∀ r, r < c_sz c1 → 1 ≤ c_co c1 r ∧ c_fi c1 r + c_co c1 r ≤ 32 := fun r hr => ⟨(hN1.1.2 r hr).1, (hN1.1.2 r hr).2.2.1⟩
    have hB := hN1.1.1
    refine lv_aload_n hx hb dX1_undo_7 rfl (lv_at hl 0 rfl) ?_
    refine lv_aload_n hx hb dX1_undo_8 rfl (lv_at hl 0 rfl) ?_
    refine cg_r3 hx hb hts hinX1 hown hK hP (hts (.fieldLink RX1 19 "FencedWords" "log" "LFencedWords$Log;") (List.mem_of_getElem? (i := 1) rfl)) dX1_undo_9 ?_
    refine callVi (rest := [.ref (a 0)]) ⟨hx, hb, hml, hown, hts⟩ (mX0_coveredLines l y t a c1 (by assumption) (by assumption)) (cwV 0 hts gX1_undo_X0_coveredLines rfl rfl rfl (by decide +kernel) ⟨Nat.le_of_ble_eq_true rfl, Nat.le_of_ble_eq_true rfl⟩) (va_recv hK hP (ci := 0) (q0 := 3) rfl rfl) hK hP hD hS hA hN rfl hl.1 rfl (Nat.le_of_ble_eq_true rfl) dX1_undo_12 ⟨Nat.le_of_ble_eq_true rfl, Nat.le_of_ble_eq_true rfl⟩ (fun H locs hP hD hS => ?_)
    refine callVi (rest := []) ⟨hx, hb, hml, hown, hts⟩ (mX1_keepLines l y t a c1 (covL c1 (c_sz c1)) (by assumption)) (cwV 1 hts gX1_undo_X1_keepLines rfl rfl rfl (by decide +kernel) ⟨Nat.le_of_ble_eq_true rfl, Nat.le_of_ble_eq_true rfl⟩) (va_recv hK hP (ci := 1) (q0 := 0) rfl rfl) hK hP hD hS hA hN rfl hl.1 rfl (Nat.le_of_ble_eq_true rfl) dX1_undo_15 ⟨Nat.le_of_ble_eq_true rfl, Nat.le_of_ble_eq_true rfl⟩ (fun H locs hP hD hS => ?_)
    generalize hc2 : (keepLinesF (covL c1 (c_sz c1)) c1).2 = c2 at hP hD
    have hP : va_P D vwCl (wC a y c2 t) H := hP
    have hD : va_D A (wC a y c2 t) := hD
    refine q_ifb_eq (tgt := 32) hx hb dX1_undo_18 (by decide) (fun (h18 : ((keepLinesF (covL c1 (c_sz c1)) c1).1) = false) => ?_) (fun (h18 : ((keepLinesF (covL c1 (c_sz c1)) c1).1) = true) => ?_)
    · refine lv_iconst (v := nI 0) hx hb dX1_undo_32 (by decide) ?_
      exact retGz hx hb hr hlocks hK hP hD hS dX1_undo_33 (by unfold undoF; rw [if_pos h4, hc1, if_neg (by rw [h18]; decide), hc2]; rfl) (by unfold undoF; rw [if_pos h4, hc1, if_neg (by rw [h18]; decide), hc2])
    · have hN2 : SN c2 := hc2 ▸ SN_keepLines hN1 h18
      have hB := hN2.1.1
      have hnk := hN2.2
      refine lv_aload_n hx hb dX1_undo_21 rfl (lv_at hl 0 rfl) ?_
      refine callVi (rest := []) ⟨hx, hb, hml, hown, hts⟩ (mX1_clearLog l y t a c2 (by assumption) (by assumption)) (cwV 0 hts gX1_undo_X1_clearLog rfl rfl rfl (by decide +kernel) ⟨Nat.le_of_ble_eq_true rfl, Nat.le_of_ble_eq_true rfl⟩) (va_recv hK hP (ci := 1) (q0 := 0) rfl rfl) hK hP hD hS hA hN rfl hl.1 rfl (Nat.le_of_ble_eq_true rfl) dX1_undo_22 ⟨Nat.le_of_ble_eq_true rfl, Nat.le_of_ble_eq_true rfl⟩ (fun H locs hP hD hS => ?_)
      generalize hc3 : (clearF c2).2 = c3 at hP hD
      have hP : va_P D vwCl (wC a y c3 t) H := hP
      have hD : va_D A (wC a y c3 t) := hD
      refine q_ifb_eq (tgt := 32) hx hb dX1_undo_25 (by decide) (fun (h25 : ((clearF c2).1) = false) => ?_) (fun (h25 : ((clearF c2).1) = true) => ?_)
      · refine lv_iconst (v := nI 0) hx hb dX1_undo_32 (by decide) ?_
        exact retGz hx hb hr hlocks hK hP hD hS dX1_undo_33 (by unfold undoF; rw [if_pos h4, hc1, if_pos h18, hc2, h25]; rfl) (by unfold undoF; rw [if_pos h4, hc1, if_pos h18, hc2, hc3])
      · refine lv_iconst (v := nI 1) hx hb dX1_undo_28 (by decide) ?_
        refine lv_goto (tgt := 33) hx hb dX1_undo_29 (by decide) ?_
        exact retGz hx hb hr hlocks hK hP hD hS dX1_undo_33 (by unfold undoF; rw [if_pos h4, hc1, if_pos h18, hc2, h25]; rfl) (by unfold undoF; rw [if_pos h4, hc1, if_pos h18, hc2, hc3])
