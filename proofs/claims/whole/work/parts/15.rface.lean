theorem in_X2_X2_store : ∀ w ∈ wsX20, w ∈ wsX2_store := fun w h => List.mem_cons_of_mem _ (List.mem_append_right _ (h))
set_option maxHeartbeats 400000 in
set_option maxRecDepth 100000 in
theorem mX2_store (l : Launch) (y : Nat → ClassId) (t : va_W) (b : Nat → Nat) (r : RS) (x : Int32) (v : Int64) (hI : RI r) : MGi l yX2_store wsX2_store 3 65 [.ref (b 0), .int x, .long v] (tyA y) (wR b y r t) ((storeR x v r).1) (wR b y ((storeR x v r).2) t) := by
  refine MGi.of (cc := cX2_store) (maxL := 4) (by decide) rfl (Nat.le_of_ble_eq_true rfl) ?_
  intro D p e s m below meth c0 A ls hx hb hr hml hown hlocks hts hK hP hD hA hN hl hS
  have hl : lv_has ls 4 [(0, .ref (b 0)), (1, .int x), (2, .long v)] := hl
  have hinX2 : ∀ w ∈ u_ws RX2 TX2 19, w ∈ wsX2_store := in_X2_X2_store
  have hz := hI.1
  have hf : ∀ q, q < r_rc r → r_fi r q + r_ma r q ≤ 32 := fun q hq => (hI.2.2.2.2.2 q hq).2.2.1
  refine lv_aload_n hx hb dX2_store_0 rfl (lv_at hl 0 rfl) ?_
  refine rg_op hx hb hts hinX2 hown hK hP (hts (.fieldLink RX2 86 "FencedWordsModel" "open" "Z") (List.mem_of_getElem? (i := 1) rfl)) dX2_store_1 ?_
  refine q_ifb_eq (tgt := 22) hx hb dX2_store_4 (by decide) (fun (h4 : (r_op r) = false) => ?_) (fun (h4 : (r_op r) = true) => ?_)
  · refine lv_iconst (v := (-1)) hx hb dX2_store_22 (by decide) ?_
    exact retGi hx hb hr hlocks hK hP hD hS dX2_store_23 (by unfold storeR; rw [if_pos h4]) (by unfold storeR; rw [if_pos h4])
  · refine lv_iload_n hx hb dX2_store_7 rfl (lv_at hl 1 rfl) ?_
    refine callSi (rest := []) ⟨hx, hb, hml, hown, hts⟩ (mX2_word l y _ x) (va_cwS 1 hts gX2_store_X2_word rfl rfl rfl (by decide +kernel) ⟨Nat.le_of_ble_eq_true rfl, Nat.le_of_ble_eq_true rfl⟩) hK hP hD hS hA hN rfl hl.1 rfl (Nat.le_of_ble_eq_true rfl) dX2_store_8 ⟨Nat.le_of_ble_eq_true rfl, Nat.le_of_ble_eq_true rfl⟩ (fun H locs hP hD hS => ?_)
    refine q_ifb_eq (tgt := 22) hx hb dX2_store_11 (by decide) (fun (h11 : (isV x) = false) => ?_) (fun (h11 : (isV x) = true) => ?_)
    · refine lv_iconst (v := (-1)) hx hb dX2_store_22 (by decide) ?_
      exact retGi hx hb hr hlocks hK hP hD hS dX2_store_23 (by unfold storeR; rw [if_neg (by rw [h4]; decide), if_pos h11]) (by unfold storeR; rw [if_neg (by rw [h4]; decide), if_pos h11])
    · obtain ⟨k, rfl, q1⟩ := isV_nat h11
      refine lv_aload_n hx hb dX2_store_14 rfl (lv_at hl 0 rfl) ?_
      refine lv_iload_n hx hb dX2_store_15 rfl (lv_at hl 1 rfl) ?_
      refine callVi (rest := []) ⟨hx, hb, hml, hown, hts⟩ (mX2_covered l y t b r k (by omega) (by first | assumption | omega) (by assumption)) (cwV 1 hts gX2_store_X2_covered rfl rfl rfl (by decide +kernel) ⟨Nat.le_of_ble_eq_true rfl, Nat.le_of_ble_eq_true rfl⟩) (va_recv hK hP (ci := 2) (q0 := 0) rfl rfl) hK hP hD hS hA hN rfl hl.1 rfl (Nat.le_of_ble_eq_true rfl) dX2_store_16 ⟨Nat.le_of_ble_eq_true rfl, Nat.le_of_ble_eq_true rfl⟩ (fun H locs hP hD hS => ?_)
      refine q_ifb_ne (tgt := 24) hx hb dX2_store_19 (by decide) (fun (h19 : (covR r k) = true) => ?_) (fun (h19 : (covR r k) = false) => ?_)
      · refine lv_aload_n hx hb dX2_store_24 rfl (lv_at hl 0 rfl) ?_
        refine rg_r9 hx hb hts hinX2 hown hK hP (hts (.fieldLink RX2 36 "FencedWordsModel" "touched" "[Z") (List.mem_of_getElem? (i := 2) rfl)) dX2_store_25 ?_
        refine lv_iload_n hx hb dX2_store_28 rfl (lv_at hl 1 rfl) ?_
        refine lv_bipush (v := nI 8) hx hb dX2_store_29 (by decide) ?_
        refine q_idiv hx hb (show k < 2 ^ 31 by omega) (show 0 < 8 by omega) (show 8 < 2 ^ 31 by omega) dX2_store_31 ?_
        refine lv_iconst (v := nI 1) hx hb dX2_store_32 (by decide) ?_
        refine rt_to (v := true) hx hb hK hP hD hS (show (k / 8) < 4 by omega) dX2_store_33 (fun H locs hP hD hS => ?_)
        refine lv_aload_n hx hb dX2_store_34 rfl (lv_at hl 0 rfl) ?_
        refine lv_iconst (v := nI 0) hx hb dX2_store_35 (by decide) ?_
        refine rp_ac (v := 0) hx hb hts hinX2 hown hK hP hD hS (hts (.fieldLink RX2 48 "FencedWordsModel" "acts" "I") (List.mem_of_getElem? (i := 3) rfl)) dX2_store_36 (fun H locs hP hD hS => ?_)
        have hac : r_ac (rs_ac (rs_to r (upB (r_to r) (k / 8) true)) 0) < 64 := (by show 0 < 64; omega)
        refine lv_aload_n hx hb dX2_store_39 rfl (lv_at hl 0 rfl) ?_
        refine lv_iconst (v := nI 1) hx hb dX2_store_40 (by decide) ?_
        refine lv_iload_n hx hb dX2_store_41 rfl (lv_at hl 1 rfl) ?_
        refine lv_lload_n hx hb dX2_store_42 rfl (lv_at hl 2 rfl) ?_
        refine callVv (rest := []) ⟨hx, hb, hml, hown, hts⟩ (mX2_list l y t b (rs_ac (rs_to r (upB (r_to r) (k / 8) true)) 0) 1 k v (by first | assumption | omega)) (cwV 3 hts gX2_store_X2_list rfl rfl rfl (by decide +kernel) ⟨Nat.le_of_ble_eq_true rfl, Nat.le_of_ble_eq_true rfl⟩) (va_recv hK hP (ci := 2) (q0 := 0) rfl rfl) hK hP hD hS hA hN rfl hl.1 rfl (Nat.le_of_ble_eq_true rfl) dX2_store_43 ⟨Nat.le_of_ble_eq_true rfl, Nat.le_of_ble_eq_true rfl⟩ (fun H locs hP hD hS => ?_)
        have hP : va_P D vwCl (wR b y (stoR k v r) t) H := hP
        have hD : va_D A (wR b y (stoR k v r) t) := hD
        have hO : AOK (stoR k v r) := AOK_sto hI q1
        refine lv_aload_n hx hb dX2_store_46 rfl (lv_at hl 0 rfl) ?_
        refine callVi (rest := []) ⟨hx, hb, hml, hown, hts⟩ (mX2_go l y t b (stoR k v r) hO) (cwV 0 hts gX2_store_X2_go rfl rfl rfl (by decide +kernel) ⟨Nat.le_of_ble_eq_true rfl, Nat.le_of_ble_eq_true rfl⟩) (va_recv hK hP (ci := 2) (q0 := 0) rfl rfl) hK hP hD hS hA hN rfl hl.1 rfl (Nat.le_of_ble_eq_true rfl) dX2_store_47 ⟨Nat.le_of_ble_eq_true rfl, Nat.le_of_ble_eq_true rfl⟩ (fun H locs hP hD hS => ?_)
        generalize hc1 : (goF (stoR k v r)).2 = c1 at hP hD
        have hP : va_P D vwCl (wR b y c1 t) H := hP
        have hD : va_D A (wR b y c1 t) := hD
        exact retGi hx hb hr hlocks hK hP hD hS dX2_store_50 (by unfold storeR; rw [if_neg (by rw [h4]; decide), if_neg (by rw [h11]; decide), nI_clamp (n := k) (by omega), if_neg (by rw [h19]; decide)]; rfl) (by unfold storeR; rw [if_neg (by rw [h4]; decide), if_neg (by rw [h11]; decide), nI_clamp (n := k) (by omega), if_neg (by rw [h19]; decide)]; show _ = wR b y (goF _).2 t; rw [hc1])
      · refine lv_iconst (v := (-1)) hx hb dX2_store_22 (by decide) ?_
        exact retGi hx hb hr hlocks hK hP hD hS dX2_store_23 (by unfold storeR; rw [if_neg (by rw [h4]; decide), if_neg (by rw [h11]; decide), nI_clamp (n := k) (by omega), if_pos h19]) (by unfold storeR; rw [if_neg (by rw [h4]; decide), if_neg (by rw [h11]; decide), nI_clamp (n := k) (by omega), if_pos h19])
theorem in_X2_X2_commit : ∀ w ∈ wsX20, w ∈ wsX2_commit := fun w h => List.mem_cons_of_mem _ (List.mem_append_right _ (h))
set_option maxHeartbeats 400000 in
set_option maxRecDepth 100000 in
theorem mX2_commit (l : Launch) (y : Nat → ClassId) (t : va_W) (b : Nat → Nat) (r : RS) (hI : RI r) : MGi l yX2_commit wsX2_commit 3 65 [.ref (b 0)] (tyA y) (wR b y r t) ((commitR r).1) (wR b y ((commitR r).2) t) := by
  refine MGi.of (cc := cX2_commit) (maxL := 2) (by decide) rfl (Nat.le_of_ble_eq_true rfl) ?_
  intro D p e s m below meth c0 A ls hx hb hr hml hown hlocks hts hK hP hD hA hN hl hS
  have hl : lv_has ls 2 [(0, .ref (b 0))] := hl
  have hinX2 : ∀ w ∈ u_ws RX2 TX2 19, w ∈ wsX2_commit := in_X2_X2_commit
  have hz := hI.1
  refine lv_aload_n hx hb dX2_commit_0 rfl (lv_at hl 0 rfl) ?_
  refine rg_op hx hb hts hinX2 hown hK hP (hts (.fieldLink RX2 86 "FencedWordsModel" "open" "Z") (List.mem_of_getElem? (i := 1) rfl)) dX2_commit_1 ?_
  refine q_ifb_ne (tgt := 9) hx hb dX2_commit_4 (by decide) (fun (h4 : (r_op r) = true) => ?_) (fun (h4 : (r_op r) = false) => ?_)
  · refine lv_aload_n hx hb dX2_commit_9 rfl (lv_at hl 0 rfl) ?_
    refine lv_iconst (v := nI 0) hx hb dX2_commit_10 (by decide) ?_
    refine rp_ac (v := 0) hx hb hts hinX2 hown hK hP hD hS (hts (.fieldLink RX2 48 "FencedWordsModel" "acts" "I") (List.mem_of_getElem? (i := 2) rfl)) dX2_commit_11 (fun H locs hP hD hS => ?_)
    refine lv_iconst (v := nI 0) hx hb dX2_commit_14 (by decide) ?_
    refine lv_istore_n (lv' := [(1, .int (nI 0)), (0, .ref (b 0))]) hx hb dX2_commit_15 rfl hl (by decide) rfl (fun ls hl => ?_)
    have loop : ∀ (n16 : Nat) (i : Nat) (H : Heap) (locs : List Loc) (ls : Array Slot), (i ≤ 4) → (5 ≤ i + n16) → va_P D vwCl (wR b y (listAll (tlL (r_to r) i) (rs_ac r 0)) t) H → va_D A (wR b y (listAll (tlL (r_to r) i) (rs_ac r 0)) t) → va_S A s.heap H locs → lv_has ls 2 [(0, .ref (b 0)), (1, .int (nI i))] → W p l e ({ frames := 3, cells := 0, slots := 0, locals := 65 }) s m [.ref (b 0)].toArray below meth c0 H locs 0 0 (GQi below D (tyA y) A ((commitR r).1) (wR b y ((commitR r).2) t) [.ref (b 0)].toArray s) (F0 m 16 ls []) := by
      intro n16
      induction n16 with
      | zero =>
        intro i H locs ls hi hn hP hD hS hl
        omega
      | succ n16 ih16 =>
        intro i H locs ls hi hn hP hD hS hl
        refine lv_iload_n hx hb dX2_commit_16 rfl (lv_at hl 1 rfl) ?_
        refine lv_iconst (v := nI 4) hx hb dX2_commit_17 (by decide) ?_
        refine q_icmp_ge (tgt := 43) hx hb (show i < 2 ^ 31 by omega) (show 4 < 2 ^ 31 by omega) dX2_commit_18 (by decide) (fun (h18 : 4 ≤ i) => ?_) (fun (h18 : i < 4) => ?_)
        · have ei : i = 4 := by omega
          subst ei
          have l4 := tlL_len (r_to r) 4
          have ea : r_ac (listAll (tlL (r_to r) 4) (rs_ac r 0)) = (tlL (r_to r) 4).length := (by rw [la_f_ac]; show 0 + _ = _; omega)
          have hac : r_ac (listAll (tlL (r_to r) 4) (rs_ac r 0)) < 64 := (by omega)
          refine lv_aload_n hx hb dX2_commit_43 rfl (lv_at hl 0 rfl) ?_
          refine rg_ac hx hb hts hinX2 hown hK hP (hts (.fieldLink RX2 48 "FencedWordsModel" "acts" "I") (List.mem_of_getElem? (i := 2) rfl)) dX2_commit_44 ?_
          refine q_if_le (tgt := 57) hx hb (show (r_ac (listAll (tlL (r_to r) 4) (rs_ac r 0))) < 2 ^ 31 by omega) dX2_commit_47 (by decide) (fun (h47 : (r_ac (listAll (tlL (r_to r) 4) (rs_ac r 0))) = 0) => ?_) (fun (h47 : ¬ (r_ac (listAll (tlL (r_to r) 4) (rs_ac r 0))) = 0) => ?_)
          · have et : tlL (r_to r) 4 = [] := List.eq_nil_of_length_eq_zero (by omega)
            have ex2 : listAll (tlL (r_to r) 4) (rs_ac r 0) = listAll (tlL (r_to r) 4 ++ (if tlL (r_to r) 4 = [] then [] else [(3, 0, 0)])) (rs_ac r 0) := (by rw [if_pos et, List.append_nil])
            rw [ex2] at hP hD
            generalize ez : tlL (r_to r) 4 ++ (if tlL (r_to r) 4 = [] then [] else [(3, 0, 0)]) = zs at hP hD
            have lz : zs.length ≤ 5 := (by rw [← ez, List.length_append]; split; simp; omega; simp; omega)
            have hacl : r_ac (listAll zs (rs_ac r 0)) + 3 ≤ 64 := (by rw [la_f_ac]; show 0 + _ + 3 ≤ 64; omega)
            have hzl : r_rc (listAll zs (rs_ac r 0)) ≤ 20 := (by rw [la_f_rc]; exact hI.1)
            refine lv_aload_n hx hb dX2_commit_57 rfl (lv_at hl 0 rfl) ?_
            refine callVv (rest := []) ⟨hx, hb, hml, hown, hts⟩ (mX2_listClearing l y t b (listAll zs (rs_ac r 0)) hacl hzl) (cwV 0 hts gX2_commit_X2_listClearing rfl rfl rfl (by decide +kernel) ⟨Nat.le_of_ble_eq_true rfl, Nat.le_of_ble_eq_true rfl⟩) (va_recv hK hP (ci := 2) (q0 := 0) rfl rfl) hK hP hD hS hA hN rfl hl.1 rfl (Nat.le_of_ble_eq_true rfl) dX2_commit_58 ⟨Nat.le_of_ble_eq_true rfl, Nat.le_of_ble_eq_true rfl⟩ (fun H locs hP hD hS => ?_)
            have ec : listAll (clrL (listAll zs (rs_ac r 0))) (listAll zs (rs_ac r 0)) = listAll (comL r) (rs_ac r 0) := (by rw [la_clr, la_app, ← ez]; rfl)
            rw [ec] at hP hD
            have hO : AOK (rs_op (listAll (comL r) (rs_ac r 0)) false) := AOK_op (AOK_com hI) false
            refine lv_aload_n hx hb dX2_commit_61 rfl (lv_at hl 0 rfl) ?_
            refine lv_iconst (v := nI 0) hx hb dX2_commit_62 (by decide) ?_
            refine rp_op (v := false) hx hb hts hinX2 hown hK hP hD hS (hts (.fieldLink RX2 86 "FencedWordsModel" "open" "Z") (List.mem_of_getElem? (i := 1) rfl)) dX2_commit_63 (fun H locs hP hD hS => ?_)
            refine lv_aload_n hx hb dX2_commit_66 rfl (lv_at hl 0 rfl) ?_
            refine callVi (rest := []) ⟨hx, hb, hml, hown, hts⟩ (mX2_go l y t b (rs_op (listAll (comL r) (rs_ac r 0)) false) hO) (cwV 0 hts gX2_commit_X2_go rfl rfl rfl (by decide +kernel) ⟨Nat.le_of_ble_eq_true rfl, Nat.le_of_ble_eq_true rfl⟩) (va_recv hK hP (ci := 2) (q0 := 0) rfl rfl) hK hP hD hS hA hN rfl hl.1 rfl (Nat.le_of_ble_eq_true rfl) dX2_commit_67 ⟨Nat.le_of_ble_eq_true rfl, Nat.le_of_ble_eq_true rfl⟩ (fun H locs hP hD hS => ?_)
            generalize hc1 : (goF (rs_op (listAll (comL r) (rs_ac r 0)) false)).2 = c1 at hP hD
            have hP : va_P D vwCl (wR b y c1 t) H := hP
            have hD : va_D A (wR b y c1 t) := hD
            exact retGi hx hb hr hlocks hK hP hD hS dX2_commit_70 (by unfold commitR; rw [if_neg (by rw [h4]; decide)]; rfl) (by unfold commitR; rw [if_neg (by rw [h4]; decide)]; show _ = wR b y (goF _).2 t; rw [hc1])
          · refine lv_aload_n hx hb dX2_commit_50 rfl (lv_at hl 0 rfl) ?_
            refine lv_iconst (v := nI 3) hx hb dX2_commit_51 (by decide) ?_
            refine lv_iconst (v := nI 0) hx hb dX2_commit_52 (by decide) ?_
            refine lv_lconst (v := 0) hx hb dX2_commit_53 (by decide) ?_
            refine callVv (rest := []) ⟨hx, hb, hml, hown, hts⟩ (mX2_list l y t b (listAll (tlL (r_to r) 4) (rs_ac r 0)) 3 0 0 (by first | assumption | omega)) (cwV 3 hts gX2_commit_X2_list rfl rfl rfl (by decide +kernel) ⟨Nat.le_of_ble_eq_true rfl, Nat.le_of_ble_eq_true rfl⟩) (va_recv hK hP (ci := 2) (q0 := 0) rfl rfl) hK hP hD hS hA hN rfl hl.1 rfl (Nat.le_of_ble_eq_true rfl) dX2_commit_54 ⟨Nat.le_of_ble_eq_true rfl, Nat.le_of_ble_eq_true rfl⟩ (fun H locs hP hD hS => ?_)
            have et : ¬ tlL (r_to r) 4 = [] := (by intro q; rw [q] at ea; apply h47; rw [q]; rw [ea]; rfl)
            have ex2 : listA 3 0 0 (listAll (tlL (r_to r) 4) (rs_ac r 0)) = listAll (tlL (r_to r) 4 ++ (if tlL (r_to r) 4 = [] then [] else [(3, 0, 0)])) (rs_ac r 0) := (by rw [if_neg et, la_snoc])
            rw [ex2] at hP hD
            generalize ez : tlL (r_to r) 4 ++ (if tlL (r_to r) 4 = [] then [] else [(3, 0, 0)]) = zs at hP hD
            have lz : zs.length ≤ 5 := (by rw [← ez, List.length_append]; split; simp; omega; simp; omega)
            have hacl : r_ac (listAll zs (rs_ac r 0)) + 3 ≤ 64 := (by rw [la_f_ac]; show 0 + _ + 3 ≤ 64; omega)
            have hzl : r_rc (listAll zs (rs_ac r 0)) ≤ 20 := (by rw [la_f_rc]; exact hI.1)
            refine lv_aload_n hx hb dX2_commit_57 rfl (lv_at hl 0 rfl) ?_
            refine callVv (rest := []) ⟨hx, hb, hml, hown, hts⟩ (mX2_listClearing l y t b (listAll zs (rs_ac r 0)) hacl hzl) (cwV 0 hts gX2_commit_X2_listClearing rfl rfl rfl (by decide +kernel) ⟨Nat.le_of_ble_eq_true rfl, Nat.le_of_ble_eq_true rfl⟩) (va_recv hK hP (ci := 2) (q0 := 0) rfl rfl) hK hP hD hS hA hN rfl hl.1 rfl (Nat.le_of_ble_eq_true rfl) dX2_commit_58 ⟨Nat.le_of_ble_eq_true rfl, Nat.le_of_ble_eq_true rfl⟩ (fun H locs hP hD hS => ?_)
            have ec : listAll (clrL (listAll zs (rs_ac r 0))) (listAll zs (rs_ac r 0)) = listAll (comL r) (rs_ac r 0) := (by rw [la_clr, la_app, ← ez]; rfl)
            rw [ec] at hP hD
            have hO : AOK (rs_op (listAll (comL r) (rs_ac r 0)) false) := AOK_op (AOK_com hI) false
            refine lv_aload_n hx hb dX2_commit_61 rfl (lv_at hl 0 rfl) ?_
            refine lv_iconst (v := nI 0) hx hb dX2_commit_62 (by decide) ?_
            refine rp_op (v := false) hx hb hts hinX2 hown hK hP hD hS (hts (.fieldLink RX2 86 "FencedWordsModel" "open" "Z") (List.mem_of_getElem? (i := 1) rfl)) dX2_commit_63 (fun H locs hP hD hS => ?_)
            refine lv_aload_n hx hb dX2_commit_66 rfl (lv_at hl 0 rfl) ?_
            refine callVi (rest := []) ⟨hx, hb, hml, hown, hts⟩ (mX2_go l y t b (rs_op (listAll (comL r) (rs_ac r 0)) false) hO) (cwV 0 hts gX2_commit_X2_go rfl rfl rfl (by decide +kernel) ⟨Nat.le_of_ble_eq_true rfl, Nat.le_of_ble_eq_true rfl⟩) (va_recv hK hP (ci := 2) (q0 := 0) rfl rfl) hK hP hD hS hA hN rfl hl.1 rfl (Nat.le_of_ble_eq_true rfl) dX2_commit_67 ⟨Nat.le_of_ble_eq_true rfl, Nat.le_of_ble_eq_true rfl⟩ (fun H locs hP hD hS => ?_)
            generalize hc2 : (goF (rs_op (listAll (comL r) (rs_ac r 0)) false)).2 = c2 at hP hD
            have hP : va_P D vwCl (wR b y c2 t) H := hP
            have hD : va_D A (wR b y c2 t) := hD
            exact retGi hx hb hr hlocks hK hP hD hS dX2_commit_70 (by unfold commitR; rw [if_neg (by rw [h4]; decide)]; rfl) (by unfold commitR; rw [if_neg (by rw [h4]; decide)]; show _ = wR b y (goF _).2 t; rw [hc2])
        · have hac : r_ac (listAll (tlL (r_to r) i) (rs_ac r 0)) < 64 := (by rw [la_f_ac]; have := tlL_len (r_to r) i; show 0 + _ < 64; omega)
          refine lv_aload_n hx hb dX2_commit_21 rfl (lv_at hl 0 rfl) ?_
          refine rg_r9 hx hb hts hinX2 hown hK hP (hts (.fieldLink RX2 36 "FencedWordsModel" "touched" "[Z") (List.mem_of_getElem? (i := 3) rfl)) dX2_commit_22 ?_
          refine lv_iload_n hx hb dX2_commit_25 rfl (lv_at hl 1 rfl) ?_
          refine rl_to hx hb hK hP (show i < 4 by omega) dX2_commit_26 ?_
          rw [la_f_to]
          refine q_ifb_eq (tgt := 37) hx hb dX2_commit_27 (by decide) (fun (h27 : (r_to r i) = false) => ?_) (fun (h27 : (r_to r i) = true) => ?_)
          · refine lv_iinc (v := nI (i + 1)) (lv' := [(1, .int (nI (i + 1))), (0, .ref (b 0))]) hx hb dX2_commit_37 hl (k := 1) rfl (nI_add i 1) (by decide) rfl (fun ls hl => ?_)
            refine lv_goto (tgt := 16) hx hb dX2_commit_40 (by decide) ?_
            have e1 : listAll (tlL (r_to r) i) (rs_ac r 0) = listAll (tlL (r_to r) (i + 1)) (rs_ac r 0) := (by show _ = listAll (tlL (r_to r) i ++ (if r_to r i = true then [(2, i, 0)] else [])) _; rw [if_neg (by rw [h27]; decide), List.append_nil])
            rw [e1] at hP hD
            exact ih16 (i + 1) _ _ _ (by omega) (by omega) hP hD hS (lv_sub hl [1, 0] rfl)
          · refine lv_aload_n hx hb dX2_commit_30 rfl (lv_at hl 0 rfl) ?_
            refine lv_iconst (v := nI 2) hx hb dX2_commit_31 (by decide) ?_
            refine lv_iload_n hx hb dX2_commit_32 rfl (lv_at hl 1 rfl) ?_
            refine lv_lconst (v := 0) hx hb dX2_commit_33 (by decide) ?_
            refine callVv (rest := []) ⟨hx, hb, hml, hown, hts⟩ (mX2_list l y t b (listAll (tlL (r_to r) i) (rs_ac r 0)) 2 i 0 (by first | assumption | omega)) (cwV 3 hts gX2_commit_X2_list rfl rfl rfl (by decide +kernel) ⟨Nat.le_of_ble_eq_true rfl, Nat.le_of_ble_eq_true rfl⟩) (va_recv hK hP (ci := 2) (q0 := 0) rfl rfl) hK hP hD hS hA hN rfl hl.1 rfl (Nat.le_of_ble_eq_true rfl) dX2_commit_34 ⟨Nat.le_of_ble_eq_true rfl, Nat.le_of_ble_eq_true rfl⟩ (fun H locs hP hD hS => ?_)
            refine lv_iinc (v := nI (i + 1)) (lv' := [(1, .int (nI (i + 1))), (0, .ref (b 0))]) hx hb dX2_commit_37 hl (k := 1) rfl (nI_add i 1) (by decide) rfl (fun ls hl => ?_)
            refine lv_goto (tgt := 16) hx hb dX2_commit_40 (by decide) ?_
            have e1 : listA 2 i 0 (listAll (tlL (r_to r) i) (rs_ac r 0)) = listAll (tlL (r_to r) (i + 1)) (rs_ac r 0) := (by rw [la_snoc]; show _ = listAll (tlL (r_to r) i ++ (if r_to r i = true then [(2, i, 0)] else [])) _; rw [if_pos h27])
            rw [e1] at hP hD
            exact ih16 (i + 1) _ _ _ (by omega) (by omega) hP hD hS (lv_sub hl [1, 0] rfl)
    have e0 : rs_ac r 0 = listAll (tlL (r_to r) 0) (rs_ac r 0) := rfl
    rw [e0] at hP hD
    exact loop 5 0 _ _ _ (by omega) (by omega) hP hD hS (lv_sub hl [1, 0] rfl)
  · refine lv_iconst (v := (-1)) hx hb dX2_commit_7 (by decide) ?_
    exact retGi hx hb hr hlocks hK hP hD hS dX2_commit_8 (by unfold commitR; rw [if_pos h4]) (by unfold commitR; rw [if_pos h4])
theorem in_X2_X2_listUndoing : ∀ w ∈ wsX20, w ∈ wsX2_listUndoing := fun w h => List.mem_cons_of_mem _ (List.mem_append_right _ (h))
set_option maxHeartbeats 400000 in
set_option maxRecDepth 100000 in
theorem mX2_listUndoing (l : Launch) (y : Nat → ClassId) (t : va_W) (b : Nat → Nat) (r : RS) (hI : RI r) : MGv l yX2_listUndoing wsX2_listUndoing 2 44 [.ref (b 0)] (tyA y) (wR b y r t) (wR b y (undR r) t) := by
  refine MGv.of (cc := cX2_listUndoing) (maxL := 4) (by decide) rfl (Nat.le_of_ble_eq_true rfl) ?_
  intro D p e s m below meth c0 A ls hx hb hr hml hown hlocks hts hK hP hD hA hN hl hS
  have hl : lv_has ls 4 [(0, .ref (b 0))] := hl
  have hinX2 : ∀ w ∈ u_ws RX2 TX2 19, w ∈ wsX2_listUndoing := in_X2_X2_listUndoing
  obtain ⟨i1, i2, i3, i4, i5, i6⟩ := id hI
  refine lv_aload_n hx hb dX2_listUndoing_0 rfl (lv_at hl 0 rfl) ?_
  refine lv_iconst (v := nI 0) hx hb dX2_listUndoing_1 (by decide) ?_
  refine rp_ac (v := 0) hx hb hts hinX2 hown hK hP hD hS (hts (.fieldLink RX2 48 "FencedWordsModel" "acts" "I") (List.mem_of_getElem? (i := 1) rfl)) dX2_listUndoing_2 (fun H locs hP hD hS => ?_)
  refine lv_aload_n hx hb dX2_listUndoing_5 rfl (lv_at hl 0 rfl) ?_
  refine rg_rc hx hb hts hinX2 hown hK hP (hts (.fieldLink RX2 52 "FencedWordsModel" "records" "I") (List.mem_of_getElem? (i := 2) rfl)) dX2_listUndoing_6 ?_
  refine q_if_ne (tgt := 13) hx hb (show (r_rc r) < 2 ^ 31 by omega) dX2_listUndoing_9 (by decide) (fun (h9 : ¬ (r_rc r) = 0) => ?_) (fun (h9 : (r_rc r) = 0) => ?_)
  · refine lv_aload_n hx hb dX2_listUndoing_13 rfl (lv_at hl 0 rfl) ?_
    refine rg_rc hx hb hts hinX2 hown hK hP (hts (.fieldLink RX2 52 "FencedWordsModel" "records" "I") (List.mem_of_getElem? (i := 2) rfl)) dX2_listUndoing_14 ?_
    refine lv_iconst (v := nI 1) hx hb dX2_listUndoing_17 (by decide) ?_
    refine lv_isub hx hb dX2_listUndoing_18 ?_
    refine lv_istore_n (lv' := [(1, .int ((nI (r_rc r)) - (nI 1))), (0, .ref (b 0))]) hx hb dX2_listUndoing_19 rfl hl (by decide) rfl (fun ls hl => ?_)
    have loopR : ∀ (n20 : Nat) (k : Nat) (H : Heap) (locs : List Loc) (ls : Array Slot), (k ≤ r_rc r) → (k + 1 ≤ n20) → va_P D vwCl (wR b y (listAll (uoL r (r_rc r - k)) (rs_ac r 0)) t) H → va_D A (wR b y (listAll (uoL r (r_rc r - k)) (rs_ac r 0)) t) → va_S A s.heap H locs → lv_has ls 4 [(0, .ref (b 0)), (1, .int (nI k - nI 1))] → W p l e ({ frames := 2, cells := 0, slots := 0, locals := 44 }) s m [.ref (b 0)].toArray below meth c0 H locs 0 0 (GQv below D (tyA y) A (wR b y (undR r) t) [.ref (b 0)].toArray s) (F0 m 20 ls []) := by
      intro n20
      induction n20 with
      | zero =>
        intro k H locs ls hk hn hP hD hS hl
        omega
      | succ n20 ih20 =>
        intro k H locs ls hk hn hP hD hS hl
        refine lv_iload_n hx hb dX2_listUndoing_20 rfl (lv_at hl 1 rfl) ?_
        refine lv_if_lt (tgt := 74) hx hb dX2_listUndoing_21 (by decide) (fun (h21 : (nI k - nI 1) < 0) => ?_) (fun (h21 : ¬ (nI k - nI 1) < 0) => ?_)
        · have hk0 : k = 0 := (sub1_neg (by omega)).mp h21
          subst hk0
          rw [Nat.sub_zero] at hP hD
          refine lv_iconst (v := nI 0) hx hb dX2_listUndoing_74 (by decide) ?_
          refine lv_istore_n (lv' := [(1, .int (nI 0)), (0, .ref (b 0))]) hx hb dX2_listUndoing_75 rfl hl (by decide) rfl (fun ls hl => ?_)
          have loopL : ∀ (n76 : Nat) (q : Nat) (H : Heap) (locs : List Loc) (ls : Array Slot), (q ≤ 4) → (5 ≤ q + n76) → va_P D vwCl (wR b y (listAll (uoL r (r_rc r) ++ tlL (hasL r) q) (rs_ac r 0)) t) H → va_D A (wR b y (listAll (uoL r (r_rc r) ++ tlL (hasL r) q) (rs_ac r 0)) t) → va_S A s.heap H locs → lv_has ls 4 [(0, .ref (b 0)), (1, .int (nI q))] → W p l e ({ frames := 2, cells := 0, slots := 0, locals := 44 }) s m [.ref (b 0)].toArray below meth c0 H locs 0 0 (GQv below D (tyA y) A (wR b y (undR r) t) [.ref (b 0)].toArray s) (F0 m 76 ls []) := by
            intro n76
            induction n76 with
            | zero =>
              intro q H locs ls hq hn3 hP hD hS hl
              omega
            | succ n76 ih76 =>
              intro q H locs ls hq hn3 hP hD hS hl
              refine lv_iload_n hx hb dX2_listUndoing_76 rfl (lv_at hl 1 rfl) ?_
              refine lv_iconst (v := nI 4) hx hb dX2_listUndoing_77 (by decide) ?_
              refine q_icmp_ge (tgt := 140) hx hb (show q < 2 ^ 31 by omega) (show 4 < 2 ^ 31 by omega) dX2_listUndoing_78 (by decide) (fun (h78 : 4 ≤ q) => ?_) (fun (h78 : q < 4) => ?_)
              · have eq4 : q = 4 := by omega
                subst eq4
                have l1 := uoL_len r (r_rc r) (Nat.le_refl _)
                have l2 := tlL_len (hasL r) 4
                have hac : r_ac (listAll (uoL r (r_rc r) ++ tlL (hasL r) 4) (rs_ac r 0)) < 64 := (by rw [la_f_ac, List.length_append]; show 0 + _ < 64; omega)
                refine lv_aload_n hx hb dX2_listUndoing_140 rfl (lv_at hl 0 rfl) ?_
                refine lv_iconst (v := nI 3) hx hb dX2_listUndoing_141 (by decide) ?_
                refine lv_iconst (v := nI 0) hx hb dX2_listUndoing_142 (by decide) ?_
                refine lv_lconst (v := 0) hx hb dX2_listUndoing_143 (by decide) ?_
                refine callVv (rest := []) ⟨hx, hb, hml, hown, hts⟩ (mX2_list l y t b (listAll (uoL r (r_rc r) ++ tlL (hasL r) 4) (rs_ac r 0)) 3 0 0 (by first | assumption | omega)) (cwV 3 hts gX2_listUndoing_X2_list rfl rfl rfl (by decide +kernel) ⟨Nat.le_of_ble_eq_true rfl, Nat.le_of_ble_eq_true rfl⟩) (va_recv hK hP (ci := 2) (q0 := 0) rfl rfl) hK hP hD hS hA hN rfl hl.1 rfl (Nat.le_of_ble_eq_true rfl) dX2_listUndoing_144 ⟨Nat.le_of_ble_eq_true rfl, Nat.le_of_ble_eq_true rfl⟩ (fun H locs hP hD hS => ?_)
                rw [la_snoc] at hP hD
                have hacl : r_ac (listAll (uoL r (r_rc r) ++ tlL (hasL r) 4 ++ [(3, 0, 0)]) (rs_ac r 0)) + 3 ≤ 64 := (by rw [la_f_ac, List.length_append, List.length_append, List.length_singleton]; show 0 + _ + 3 ≤ 64; omega)
                have hzl : r_rc (listAll (uoL r (r_rc r) ++ tlL (hasL r) 4 ++ [(3, 0, 0)]) (rs_ac r 0)) ≤ 20 := (by rw [la_f_rc]; exact hI.1)
                refine lv_aload_n hx hb dX2_listUndoing_147 rfl (lv_at hl 0 rfl) ?_
                refine callVv (rest := []) ⟨hx, hb, hml, hown, hts⟩ (mX2_listClearing l y t b (listAll (uoL r (r_rc r) ++ tlL (hasL r) 4 ++ [(3, 0, 0)]) (rs_ac r 0)) hacl hzl) (cwV 0 hts gX2_listUndoing_X2_listClearing rfl rfl rfl (by decide +kernel) ⟨Nat.le_of_ble_eq_true rfl, Nat.le_of_ble_eq_true rfl⟩) (va_recv hK hP (ci := 2) (q0 := 0) rfl rfl) hK hP hD hS hA hN rfl hl.1 rfl (Nat.le_of_ble_eq_true rfl) dX2_listUndoing_148 ⟨Nat.le_of_ble_eq_true rfl, Nat.le_of_ble_eq_true rfl⟩ (fun H locs hP hD hS => ?_)
                exact retGv hx hb hr hlocks hK hP hD hS dX2_listUndoing_151 (by unfold undR undL; rw [if_neg h9, la_clr, la_app]; rfl)
              · have hzq : r_rc (listAll (uoL r (r_rc r) ++ tlL (hasL r) q) (rs_ac r 0)) ≤ 20 := (by rw [la_f_rc]; exact hI.1)
                have hfq : ∀ z, z < r_rc (listAll (uoL r (r_rc r) ++ tlL (hasL r) q) (rs_ac r 0)) → r_fi (listAll (uoL r (r_rc r) ++ tlL (hasL r) q) (rs_ac r 0)) z + r_ma (listAll (uoL r (r_rc r) ++ tlL (hasL r) q) (rs_ac r 0)) z ≤ 32 := (by rw [la_f_rc, la_f_fi, la_f_ma]; exact fun z hz => (hI.2.2.2.2.2 z hz).2.2.1)
                have hac : r_ac (listAll (uoL r (r_rc r) ++ tlL (hasL r) q) (rs_ac r 0)) < 64 := (by rw [la_f_ac, List.length_append]; have := uoL_len r (r_rc r) (Nat.le_refl _); have := tlL_len (hasL r) q; show 0 + _ < 64; omega)
                refine lv_iconst (v := nI 0) hx hb dX2_listUndoing_81 (by decide) ?_
                refine lv_istore_n (lv' := [(2, .int (nI 0)), (0, .ref (b 0)), (1, .int (nI q))]) hx hb dX2_listUndoing_82 rfl hl (by decide) rfl (fun ls hl => ?_)
                refine lv_bipush (v := nI 8) hx hb dX2_listUndoing_83 (by decide) ?_
                refine lv_iload_n hx hb dX2_listUndoing_85 rfl (lv_at hl 2 rfl) ?_
                refine q_imul hx hb dX2_listUndoing_86 ?_
                refine lv_istore_n (lv' := [(3, .int (nI (8 * q))), (2, .int (nI 0)), (0, .ref (b 0)), (1, .int (nI q))]) hx hb dX2_listUndoing_87 rfl hl (by decide) rfl (fun ls hl => ?_)
                have loopA : ∀ (n88 : Nat) (i : Nat) (H : Heap) (locs : List Loc) (ls : Array Slot), (i ≤ 8) → (9 ≤ i + n88) → va_P D vwCl (wR b y (listAll (uoL r (r_rc r) ++ tlL (hasL r) q) (rs_ac r 0)) t) H → va_D A (wR b y (listAll (uoL r (r_rc r) ++ tlL (hasL r) q) (rs_ac r 0)) t) → va_S A s.heap H locs → lv_has ls 4 [(0, .ref (b 0)), (1, .int (nI q)), (2, .int (bI (anyTo (fun z => covR r (8 * q + z)) i))), (3, .int (nI (8 * q + i)))] → W p l e ({ frames := 2, cells := 0, slots := 0, locals := 44 }) s m [.ref (b 0)].toArray below meth c0 H locs 0 0 (GQv below D (tyA y) A (wR b y (undR r) t) [.ref (b 0)].toArray s) (F0 m 88 ls []) := by
                  intro n88
                  induction n88 with
                  | zero =>
                    intro i H locs ls hi hn4 hP hD hS hl
                    omega
                  | succ n88 ih88 =>
                    intro i H locs ls hi hn4 hP hD hS hl
                    refine lv_iload_n hx hb dX2_listUndoing_88 rfl (lv_at hl 3 rfl) ?_
                    refine lv_bipush (v := nI 8) hx hb dX2_listUndoing_89 (by decide) ?_
                    refine lv_iload_n hx hb dX2_listUndoing_91 rfl (lv_at hl 1 rfl) ?_
                    refine q_imul hx hb dX2_listUndoing_92 ?_
                    refine lv_bipush (v := nI 8) hx hb dX2_listUndoing_93 (by decide) ?_
                    refine q_iadd hx hb dX2_listUndoing_95 ?_
                    refine q_icmp_ge (tgt := 123) hx hb (show (8 * q + i) < 2 ^ 31 by omega) (show ((8 * q) + 8) < 2 ^ 31 by omega) dX2_listUndoing_96 (by decide) (fun (h96 : ((8 * q) + 8) ≤ (8 * q + i)) => ?_) (fun (h96 : (8 * q + i) < ((8 * q) + 8)) => ?_)
                    · have ei : i = 8 := by omega
                      subst ei
                      have hl : lv_has ls 4 [(0, .ref (b 0)), (1, .int (nI q)), (2, .int (bI (hasL r q))), (3, .int (nI (8 * q + 8)))] := hl
                      refine lv_iload_n hx hb dX2_listUndoing_123 rfl (lv_at hl 2 rfl) ?_
                      refine q_ifb_eq (tgt := 134) hx hb dX2_listUndoing_124 (by decide) (fun (h124 : (hasL r q) = false) => ?_) (fun (h124 : (hasL r q) = true) => ?_)
                      · refine lv_iinc (v := nI (q + 1)) (lv' := [(1, .int (nI (q + 1))), (0, .ref (b 0)), (2, .int (bI (hasL r q))), (3, .int (nI (8 * q + 8)))]) hx hb dX2_listUndoing_134 hl (k := 1) rfl (nI_add q 1) (by decide) rfl (fun ls hl => ?_)
                        refine lv_goto (tgt := 76) hx hb dX2_listUndoing_137 (by decide) ?_
                        have e1 : listAll (uoL r (r_rc r) ++ tlL (hasL r) q) (rs_ac r 0) = listAll (uoL r (r_rc r) ++ tlL (hasL r) (q + 1)) (rs_ac r 0) := (by show _ = listAll (_ ++ (tlL (hasL r) q ++ (if hasL r q = true then [(2, q, 0)] else []))) _; rw [if_neg (by rw [h124]; decide), List.append_nil])
                        rw [e1] at hP hD
                        exact ih76 (q + 1) _ _ _ (by omega) (by omega) hP hD hS (lv_sub hl [1, 0] rfl)
                      · refine lv_aload_n hx hb dX2_listUndoing_127 rfl (lv_at hl 0 rfl) ?_
                        refine lv_iconst (v := nI 2) hx hb dX2_listUndoing_128 (by decide) ?_
                        refine lv_iload_n hx hb dX2_listUndoing_129 rfl (lv_at hl 1 rfl) ?_
                        refine lv_lconst (v := 0) hx hb dX2_listUndoing_130 (by decide) ?_
                        refine callVv (rest := []) ⟨hx, hb, hml, hown, hts⟩ (mX2_list l y t b (listAll (uoL r (r_rc r) ++ tlL (hasL r) q) (rs_ac r 0)) 2 q 0 (by first | assumption | omega)) (cwV 3 hts gX2_listUndoing_X2_list rfl rfl rfl (by decide +kernel) ⟨Nat.le_of_ble_eq_true rfl, Nat.le_of_ble_eq_true rfl⟩) (va_recv hK hP (ci := 2) (q0 := 0) rfl rfl) hK hP hD hS hA hN rfl hl.1 rfl (Nat.le_of_ble_eq_true rfl) dX2_listUndoing_131 ⟨Nat.le_of_ble_eq_true rfl, Nat.le_of_ble_eq_true rfl⟩ (fun H locs hP hD hS => ?_)
                        refine lv_iinc (v := nI (q + 1)) (lv' := [(1, .int (nI (q + 1))), (0, .ref (b 0)), (2, .int (bI (hasL r q))), (3, .int (nI (8 * q + 8)))]) hx hb dX2_listUndoing_134 hl (k := 1) rfl (nI_add q 1) (by decide) rfl (fun ls hl => ?_)
                        refine lv_goto (tgt := 76) hx hb dX2_listUndoing_137 (by decide) ?_
                        have e1 : listA 2 q 0 (listAll (uoL r (r_rc r) ++ tlL (hasL r) q) (rs_ac r 0)) = listAll (uoL r (r_rc r) ++ tlL (hasL r) (q + 1)) (rs_ac r 0) := (by rw [la_snoc]; show _ = listAll (_ ++ (tlL (hasL r) q ++ (if hasL r q = true then [(2, q, 0)] else []))) _; rw [if_pos h124, List.append_assoc])
                        rw [e1] at hP hD
                        exact ih76 (q + 1) _ _ _ (by omega) (by omega) hP hD hS (lv_sub hl [1, 0] rfl)
                    · refine lv_iload_n hx hb dX2_listUndoing_99 rfl (lv_at hl 2 rfl) ?_
                      refine q_ifb_ne (tgt := 111) hx hb dX2_listUndoing_100 (by decide) (fun (h100 : (anyTo (fun z => covR r (8 * q + z)) i) = true) => ?_) (fun (h100 : (anyTo (fun z => covR r (8 * q + z)) i) = false) => ?_)
                      · refine lv_iconst (v := nI 1) hx hb dX2_listUndoing_111 (by decide) ?_
                        refine lv_goto (tgt := 116) hx hb dX2_listUndoing_112 (by decide) ?_
                        refine lv_istore_n (lv' := [(2, .int (nI 1)), (0, .ref (b 0)), (1, .int (nI q)), (3, .int (nI (8 * q + i)))]) hx hb dX2_listUndoing_116 rfl hl (by decide) rfl (fun ls hl => ?_)
                        refine lv_iinc (v := nI (8 * q + i + 1)) (lv' := [(3, .int (nI (8 * q + i + 1))), (2, .int (nI 1)), (0, .ref (b 0)), (1, .int (nI q))]) hx hb dX2_listUndoing_117 hl (k := 3) rfl (nI_add (8 * q + i) 1) (by decide) rfl (fun ls hl => ?_)
                        refine lv_goto (tgt := 88) hx hb dX2_listUndoing_120 (by decide) ?_
                        have eb : anyTo (fun z => covR r (8 * q + z)) (i + 1) = true := (by simp [anyTo, h100])
                        have eq : nI 1 = bI (anyTo (fun z => covR r (8 * q + z)) (i + 1)) := (by rw [eb]; rfl)
                        rw [eq] at hl
                        exact ih88 (i + 1) _ _ _ (by omega) (by omega) hP hD hS (lv_sub hl [2, 3, 1, 0] rfl)
                      · refine lv_aload_n hx hb dX2_listUndoing_103 rfl (lv_at hl 0 rfl) ?_
                        refine lv_iload_n hx hb dX2_listUndoing_104 rfl (lv_at hl 3 rfl) ?_
                        refine callVi (rest := []) ⟨hx, hb, hml, hown, hts⟩ (mX2_covered l y t b (listAll (uoL r (r_rc r) ++ tlL (hasL r) q) (rs_ac r 0)) (8 * q + i) (by omega) (by first | assumption | omega) (by assumption)) (cwV 1 hts gX2_listUndoing_X2_covered rfl rfl rfl (by decide +kernel) ⟨Nat.le_of_ble_eq_true rfl, Nat.le_of_ble_eq_true rfl⟩) (va_recv hK hP (ci := 2) (q0 := 0) rfl rfl) hK hP hD hS hA hN rfl hl.1 rfl (Nat.le_of_ble_eq_true rfl) dX2_listUndoing_105 ⟨Nat.le_of_ble_eq_true rfl, Nat.le_of_ble_eq_true rfl⟩ (fun H locs hP hD hS => ?_)
                        rw [la_cov]
                        refine q_ifb_eq (tgt := 115) hx hb dX2_listUndoing_108 (by decide) (fun (h108 : (covR r (8 * q + i)) = false) => ?_) (fun (h108 : (covR r (8 * q + i)) = true) => ?_)
                        · refine lv_iconst (v := nI 0) hx hb dX2_listUndoing_115 (by decide) ?_
                          refine lv_istore_n (lv' := [(2, .int (nI 0)), (0, .ref (b 0)), (1, .int (nI q)), (3, .int (nI (8 * q + i)))]) hx hb dX2_listUndoing_116 rfl hl (by decide) rfl (fun ls hl => ?_)
                          refine lv_iinc (v := nI (8 * q + i + 1)) (lv' := [(3, .int (nI (8 * q + i + 1))), (2, .int (nI 0)), (0, .ref (b 0)), (1, .int (nI q))]) hx hb dX2_listUndoing_117 hl (k := 3) rfl (nI_add (8 * q + i) 1) (by decide) rfl (fun ls hl => ?_)
                          refine lv_goto (tgt := 88) hx hb dX2_listUndoing_120 (by decide) ?_
                          have eb : anyTo (fun z => covR r (8 * q + z)) (i + 1) = false := (by simp [anyTo, h100, h108])
                          have eq : nI 0 = bI (anyTo (fun z => covR r (8 * q + z)) (i + 1)) := (by rw [eb]; rfl)
                          rw [eq] at hl
                          exact ih88 (i + 1) _ _ _ (by omega) (by omega) hP hD hS (lv_sub hl [2, 3, 1, 0] rfl)
                        · refine lv_iconst (v := nI 1) hx hb dX2_listUndoing_111 (by decide) ?_
                          refine lv_goto (tgt := 116) hx hb dX2_listUndoing_112 (by decide) ?_
                          refine lv_istore_n (lv' := [(2, .int (nI 1)), (0, .ref (b 0)), (1, .int (nI q)), (3, .int (nI (8 * q + i)))]) hx hb dX2_listUndoing_116 rfl hl (by decide) rfl (fun ls hl => ?_)
                          refine lv_iinc (v := nI (8 * q + i + 1)) (lv' := [(3, .int (nI (8 * q + i + 1))), (2, .int (nI 1)), (0, .ref (b 0)), (1, .int (nI q))]) hx hb dX2_listUndoing_117 hl (k := 3) rfl (nI_add (8 * q + i) 1) (by decide) rfl (fun ls hl => ?_)
                          refine lv_goto (tgt := 88) hx hb dX2_listUndoing_120 (by decide) ?_
                          have eb : anyTo (fun z => covR r (8 * q + z)) (i + 1) = true := (by simp [anyTo, h108])
                          have eq : nI 1 = bI (anyTo (fun z => covR r (8 * q + z)) (i + 1)) := (by rw [eb]; rfl)
                          rw [eq] at hl
                          exact ih88 (i + 1) _ _ _ (by omega) (by omega) hP hD hS (lv_sub hl [2, 3, 1, 0] rfl)
                have hl := lv_sub hl [2, 3, 1, 0] rfl
                have hl : lv_has ls 4 [(0, .ref (b 0)), (1, .int (nI q)), (2, .int (bI (anyTo (fun z => covR r (8 * q + z)) 0))), (3, .int (nI (8 * q + 0)))] := hl
                exact loopA 9 0 _ _ _ (by omega) (by omega) hP hD hS (lv_sub hl [0, 1, 2, 3] rfl)
          have e0 : listAll (uoL r (r_rc r)) (rs_ac r 0) = listAll (uoL r (r_rc r) ++ tlL (hasL r) 0) (rs_ac r 0) := (by show _ = listAll (_ ++ []) _; rw [List.append_nil])
          rw [e0] at hP hD
          exact loopL 5 0 _ _ _ (by omega) (by omega) hP hD hS (lv_sub hl [1, 0] rfl)
        · obtain ⟨j, rfl⟩ : ∃ j, k = j + 1 := ⟨k - 1, by have q : k ≠ 0 := fun q => h21 ((sub1_neg (by omega)).mpr q); omega⟩
          rw [sub1_s j] at hl
          have hj := hI.2.2.2.2.2 j (by omega)
          refine lv_iconst (v := nI 0) hx hb dX2_listUndoing_24 (by decide) ?_
          refine lv_istore_n (lv' := [(2, .int (nI 0)), (0, .ref (b 0)), (1, .int (nI j))]) hx hb dX2_listUndoing_25 rfl hl (by decide) rfl (fun ls hl => ?_)
          have loopI : ∀ (n26 : Nat) (i : Nat) (H : Heap) (locs : List Loc) (ls : Array Slot), (i ≤ r_ma r j) → (r_ma r j + 1 ≤ i + n26) → va_P D vwCl (wR b y (listAll (uoL r (r_rc r - (j + 1)) ++ uiL r j i) (rs_ac r 0)) t) H → va_D A (wR b y (listAll (uoL r (r_rc r - (j + 1)) ++ uiL r j i) (rs_ac r 0)) t) → va_S A s.heap H locs → lv_has ls 4 [(0, .ref (b 0)), (1, .int (nI j)), (2, .int (nI i))] → W p l e ({ frames := 2, cells := 0, slots := 0, locals := 44 }) s m [.ref (b 0)].toArray below meth c0 H locs 0 0 (GQv below D (tyA y) A (wR b y (undR r) t) [.ref (b 0)].toArray s) (F0 m 26 ls []) := by
            intro n26
            induction n26 with
            | zero =>
              intro i H locs ls hi hn2 hP hD hS hl
              omega
            | succ n26 ih26 =>
              intro i H locs ls hi hn2 hP hD hS hl
              refine lv_iload_n hx hb dX2_listUndoing_26 rfl (lv_at hl 2 rfl) ?_
              refine lv_aload_n hx hb dX2_listUndoing_27 rfl (lv_at hl 0 rfl) ?_
              refine rg_r5 hx hb hts hinX2 hown hK hP (hts (.fieldLink RX2 24 "FencedWordsModel" "many" "[I") (List.mem_of_getElem? (i := 3) rfl)) dX2_listUndoing_28 ?_
              refine lv_iload_n hx hb dX2_listUndoing_31 rfl (lv_at hl 1 rfl) ?_
              refine rl_ma hx hb hK hP (show j < 20 by omega) dX2_listUndoing_32 ?_
              rw [la_f_ma]
              refine q_icmp_ge (tgt := 68) hx hb (show i < 2 ^ 31 by omega) (show (r_ma r j) < 2 ^ 31 by omega) dX2_listUndoing_33 (by decide) (fun (h33 : (r_ma r j) ≤ i) => ?_) (fun (h33 : i < (r_ma r j)) => ?_)
              · refine lv_iinc (v := nI j + (-1)) (lv' := [(1, .int (nI j + (-1))), (0, .ref (b 0)), (2, .int (nI i))]) hx hb dX2_listUndoing_68 hl (k := 1) rfl rfl (by decide) rfl (fun ls hl => ?_)
                refine lv_goto (tgt := 20) hx hb dX2_listUndoing_71 (by decide) ?_
                have ei : i = r_ma r j := (by omega)
                rw [ei] at hP hD
                have e1 : uoL r (r_rc r - (j + 1)) ++ uiL r j (r_ma r j) = uoL r (r_rc r - j) := (by rw [show r_rc r - j = (r_rc r - (j + 1)) + 1 by omega]; show _ = uoL r (r_rc r - (j + 1)) ++ uiL r (r_rc r - (r_rc r - (j + 1) + 1)) (r_ma r (r_rc r - (r_rc r - (j + 1) + 1))); rw [show r_rc r - (r_rc r - (j + 1) + 1) = j by omega])
                rw [e1] at hP hD
                rw [dec_s j] at hl
                exact ih20 j _ _ _ (by omega) (by omega) hP hD hS (lv_sub hl [1, 0] rfl)
              · have hac : r_ac (listAll (uoL r (r_rc r - (j + 1)) ++ uiL r j i) (rs_ac r 0)) < 64 := (by rw [la_f_ac, List.length_append, uiL_len]; have := uoL_len r (r_rc r - (j + 1)) (by omega); show 0 + _ < 64; omega)
                refine lv_aload_n hx hb dX2_listUndoing_36 rfl (lv_at hl 0 rfl) ?_
                refine lv_iconst (v := nI 1) hx hb dX2_listUndoing_37 (by decide) ?_
                refine lv_aload_n hx hb dX2_listUndoing_38 rfl (lv_at hl 0 rfl) ?_
                refine rg_r4 hx hb hts hinX2 hown hK hP (hts (.fieldLink RX2 20 "FencedWordsModel" "first" "[I") (List.mem_of_getElem? (i := 4) rfl)) dX2_listUndoing_39 ?_
                refine lv_iload_n hx hb dX2_listUndoing_42 rfl (lv_at hl 1 rfl) ?_
                refine rl_fi hx hb hK hP (show j < 20 by omega) dX2_listUndoing_43 ?_
                rw [la_f_fi]
                refine lv_iload_n hx hb dX2_listUndoing_44 rfl (lv_at hl 2 rfl) ?_
                refine q_iadd hx hb dX2_listUndoing_45 ?_
                refine lv_aload_n hx hb dX2_listUndoing_46 rfl (lv_at hl 0 rfl) ?_
                refine rg_r8 hx hb hts hinX2 hown hK hP (hts (.fieldLink RX2 33 "FencedWordsModel" "old" "[J") (List.mem_of_getElem? (i := 5) rfl)) dX2_listUndoing_47 ?_
                refine lv_aload_n hx hb dX2_listUndoing_50 rfl (lv_at hl 0 rfl) ?_
                refine rg_r6 hx hb hts hinX2 hown hK hP (hts (.fieldLink RX2 27 "FencedWordsModel" "from" "[I") (List.mem_of_getElem? (i := 6) rfl)) dX2_listUndoing_51 ?_
                refine lv_iload_n hx hb dX2_listUndoing_54 rfl (lv_at hl 1 rfl) ?_
                refine rl_fr hx hb hK hP (show j < 20 by omega) dX2_listUndoing_55 ?_
                rw [la_f_fr]
                refine lv_iload_n hx hb dX2_listUndoing_56 rfl (lv_at hl 2 rfl) ?_
                refine q_iadd hx hb dX2_listUndoing_57 ?_
                refine rl_ol hx hb hK hP (show ((r_fr r j) + i) < 40 by omega) dX2_listUndoing_58 ?_
                rw [la_f_ol]
                refine callVv (rest := []) ⟨hx, hb, hml, hown, hts⟩ (mX2_list l y t b (listAll (uoL r (r_rc r - (j + 1)) ++ uiL r j i) (rs_ac r 0)) 1 ((r_fi r j) + i) (r_ol r (r_fr r j + i)) (by first | assumption | omega)) (cwV 3 hts gX2_listUndoing_X2_list rfl rfl rfl (by decide +kernel) ⟨Nat.le_of_ble_eq_true rfl, Nat.le_of_ble_eq_true rfl⟩) (va_recv hK hP (ci := 2) (q0 := 0) rfl rfl) hK hP hD hS hA hN rfl hl.1 rfl (Nat.le_of_ble_eq_true rfl) dX2_listUndoing_59 ⟨Nat.le_of_ble_eq_true rfl, Nat.le_of_ble_eq_true rfl⟩ (fun H locs hP hD hS => ?_)
                refine lv_iinc (v := nI (i + 1)) (lv' := [(2, .int (nI (i + 1))), (0, .ref (b 0)), (1, .int (nI j))]) hx hb dX2_listUndoing_62 hl (k := 2) rfl (nI_add i 1) (by decide) rfl (fun ls hl => ?_)
                refine lv_goto (tgt := 26) hx hb dX2_listUndoing_65 (by decide) ?_
                have e1 : listA 1 (r_fi r j + i) (r_ol r (r_fr r j + i)) (listAll (uoL r (r_rc r - (j + 1)) ++ uiL r j i) (rs_ac r 0)) = listAll (uoL r (r_rc r - (j + 1)) ++ uiL r j (i + 1)) (rs_ac r 0) := (by rw [la_snoc, List.append_assoc]; rfl)
                rw [e1] at hP hD
                exact ih26 (i + 1) _ _ _ (by omega) (by omega) hP hD hS (lv_sub hl [1, 2, 0] rfl)
          have e0 : listAll (uoL r (r_rc r - (j + 1))) (rs_ac r 0) = listAll (uoL r (r_rc r - (j + 1)) ++ uiL r j 0) (rs_ac r 0) := (by show _ = listAll (_ ++ []) _; rw [List.append_nil])
          rw [e0] at hP hD
          exact loopI (r_ma r j + 1) 0 _ _ _ (by omega) (by omega) hP hD hS (lv_sub hl [1, 2, 0] rfl)
    have e0 : rs_ac r 0 = listAll (uoL r (r_rc r - r_rc r)) (rs_ac r 0) := (by rw [Nat.sub_self]; rfl)
    rw [e0] at hP hD
    exact loopR (r_rc r + 1) (r_rc r) _ _ _ (by omega) (by omega) hP hD hS (lv_sub hl [1, 0] rfl)
  · exact retGv hx hb hr hlocks hK hP hD hS dX2_listUndoing_12 (by unfold undR undL; rw [if_pos h9]; rfl)
theorem in_X2_X2_abort : ∀ w ∈ wsX20, w ∈ wsX2_abort := fun w h => List.mem_cons_of_mem _ (List.mem_append_right _ (h))
set_option maxHeartbeats 400000 in
set_option maxRecDepth 100000 in
theorem mX2_abort (l : Launch) (y : Nat → ClassId) (t : va_W) (b : Nat → Nat) (r : RS) (hI : RI r) : MGi l yX2_abort wsX2_abort 3 67 [.ref (b 0)] (tyA y) (wR b y r t) ((abortR r).1) (wR b y ((abortR r).2) t) := by
  refine MGi.of (cc := cX2_abort) (maxL := 1) (by decide) rfl (Nat.le_of_ble_eq_true rfl) ?_
  intro D p e s m below meth c0 A ls hx hb hr hml hown hlocks hts hK hP hD hA hN hl hS
  have hl : lv_has ls 1 [(0, .ref (b 0))] := hl
  have hinX2 : ∀ w ∈ u_ws RX2 TX2 19, w ∈ wsX2_abort := in_X2_X2_abort
  refine lv_aload_n hx hb dX2_abort_0 rfl (lv_at hl 0 rfl) ?_
  refine rg_op hx hb hts hinX2 hown hK hP (hts (.fieldLink RX2 86 "FencedWordsModel" "open" "Z") (List.mem_of_getElem? (i := 1) rfl)) dX2_abort_1 ?_
  refine q_ifb_ne (tgt := 9) hx hb dX2_abort_4 (by decide) (fun (h4 : (r_op r) = true) => ?_) (fun (h4 : (r_op r) = false) => ?_)
  · refine lv_aload_n hx hb dX2_abort_9 rfl (lv_at hl 0 rfl) ?_
    refine callVv (rest := []) ⟨hx, hb, hml, hown, hts⟩ (mX2_listUndoing l y t b r hI) (cwV 0 hts gX2_abort_X2_listUndoing rfl rfl rfl (by decide +kernel) ⟨Nat.le_of_ble_eq_true rfl, Nat.le_of_ble_eq_true rfl⟩) (va_recv hK hP (ci := 2) (q0 := 0) rfl rfl) hK hP hD hS hA hN rfl hl.1 rfl (Nat.le_of_ble_eq_true rfl) dX2_abort_10 ⟨Nat.le_of_ble_eq_true rfl, Nat.le_of_ble_eq_true rfl⟩ (fun H locs hP hD hS => ?_)
    have hO : AOK (rs_op (undR r) false) := AOK_op (AOK_und hI) false
    refine lv_aload_n hx hb dX2_abort_13 rfl (lv_at hl 0 rfl) ?_
    refine lv_iconst (v := nI 0) hx hb dX2_abort_14 (by decide) ?_
    refine rp_op (v := false) hx hb hts hinX2 hown hK hP hD hS (hts (.fieldLink RX2 86 "FencedWordsModel" "open" "Z") (List.mem_of_getElem? (i := 1) rfl)) dX2_abort_15 (fun H locs hP hD hS => ?_)
    refine lv_aload_n hx hb dX2_abort_18 rfl (lv_at hl 0 rfl) ?_
    refine callVi (rest := []) ⟨hx, hb, hml, hown, hts⟩ (mX2_go l y t b (rs_op (undR r) false) hO) (cwV 0 hts gX2_abort_X2_go rfl rfl rfl (by decide +kernel) ⟨Nat.le_of_ble_eq_true rfl, Nat.le_of_ble_eq_true rfl⟩) (va_recv hK hP (ci := 2) (q0 := 0) rfl rfl) hK hP hD hS hA hN rfl hl.1 rfl (Nat.le_of_ble_eq_true rfl) dX2_abort_19 ⟨Nat.le_of_ble_eq_true rfl, Nat.le_of_ble_eq_true rfl⟩ (fun H locs hP hD hS => ?_)
    generalize hc1 : (goF (rs_op (undR r) false)).2 = c1 at hP hD
    have hP : va_P D vwCl (wR b y c1 t) H := hP
    have hD : va_D A (wR b y c1 t) := hD
    exact retGi hx hb hr hlocks hK hP hD hS dX2_abort_22 (by unfold abortR; rw [if_neg (by rw [h4]; decide)]; rfl) (by unfold abortR; rw [if_neg (by rw [h4]; decide)]; show _ = wR b y (goF _).2 t; rw [hc1])
  · refine lv_iconst (v := (-1)) hx hb dX2_abort_7 (by decide) ?_
    exact retGi hx hb hr hlocks hK hP hD hS dX2_abort_8 (by unfold abortR; rw [if_pos h4]) (by unfold abortR; rw [if_pos h4])
theorem in_X2_X2_recover : ∀ w ∈ wsX20, w ∈ wsX2_recover := fun w h => List.mem_cons_of_mem _ (List.mem_append_right _ (h))
set_option maxHeartbeats 400000 in
set_option maxRecDepth 100000 in
theorem mX2_recover (l : Launch) (y : Nat → ClassId) (t : va_W) (b : Nat → Nat) (r : RS) (hI : RI r) : MGi l yX2_recover wsX2_recover 3 67 [.ref (b 0)] (tyA y) (wR b y r t) ((recoverR r).1) (wR b y ((recoverR r).2) t) := by
  refine MGi.of (cc := cX2_recover) (maxL := 2) (by decide) rfl (Nat.le_of_ble_eq_true rfl) ?_
  intro D p e s m below meth c0 A ls hx hb hr hml hown hlocks hts hK hP hD hA hN hl hS
  have hl : lv_has ls 2 [(0, .ref (b 0))] := hl
  have hinX2 : ∀ w ∈ u_ws RX2 TX2 19, w ∈ wsX2_recover := in_X2_X2_recover
  refine lv_aload_n hx hb dX2_recover_0 rfl (lv_at hl 0 rfl) ?_
  refine rg_of hx hb hts hinX2 hown hK hP (hts (.fieldLink RX2 82 "FencedWordsModel" "off" "Z") (List.mem_of_getElem? (i := 1) rfl)) dX2_recover_1 ?_
  refine q_ifb_ne (tgt := 9) hx hb dX2_recover_4 (by decide) (fun (h4 : (r_of r) = true) => ?_) (fun (h4 : (r_of r) = false) => ?_)
  · refine lv_aload_n hx hb dX2_recover_9 rfl (lv_at hl 0 rfl) ?_
    refine lv_iconst (v := nI 0) hx hb dX2_recover_10 (by decide) ?_
    refine rp_of (v := false) hx hb hts hinX2 hown hK hP hD hS (hts (.fieldLink RX2 82 "FencedWordsModel" "off" "Z") (List.mem_of_getElem? (i := 1) rfl)) dX2_recover_11 (fun H locs hP hD hS => ?_)
    refine lv_iconst (v := nI 0) hx hb dX2_recover_14 (by decide) ?_
    refine lv_istore_n (lv' := [(1, .int (nI 0)), (0, .ref (b 0))]) hx hb dX2_recover_15 rfl hl (by decide) rfl (fun ls hl => ?_)
    have loop : ∀ (n16 : Nat) (i : Nat) (H : Heap) (locs : List Loc) (ls : Array Slot), (i ≤ 32) → (33 ≤ i + n16) → va_P D vwCl (wR b y (rs_S (rs_of r false) (va_cpy (r_K r) (r_S r) 0 0 i)) t) H → va_D A (wR b y (rs_S (rs_of r false) (va_cpy (r_K r) (r_S r) 0 0 i)) t) → va_S A s.heap H locs → lv_has ls 2 [(0, .ref (b 0)), (1, .int (nI i))] → W p l e ({ frames := 3, cells := 0, slots := 0, locals := 67 }) s m [.ref (b 0)].toArray below meth c0 H locs 0 0 (GQi below D (tyA y) A ((recoverR r).1) (wR b y ((recoverR r).2) t) [.ref (b 0)].toArray s) (F0 m 16 ls []) := by
      intro n16
      induction n16 with
      | zero =>
        intro i H locs ls hi hn hP hD hS hl
        omega
      | succ n16 ih16 =>
        intro i H locs ls hi hn hP hD hS hl
        refine lv_iload_n hx hb dX2_recover_16 rfl (lv_at hl 1 rfl) ?_
        refine lv_bipush (v := nI 32) hx hb dX2_recover_17 (by decide) ?_
        refine q_icmp_ge (tgt := 40) hx hb (show i < 2 ^ 31 by omega) (show 32 < 2 ^ 31 by omega) dX2_recover_19 (by decide) (fun (h19 : 32 ≤ i) => ?_) (fun (h19 : i < 32) => ?_)
        · have ei : i = 32 := by omega
          subst ei
          have hP : va_P D vwCl (wR b y (recR r) t) H := hP
          have hD : va_D A (wR b y (recR r) t) := hD
          have hI : RI (recR r) := RI_rec hI
          refine lv_aload_n hx hb dX2_recover_40 rfl (lv_at hl 0 rfl) ?_
          refine callVv (rest := []) ⟨hx, hb, hml, hown, hts⟩ (mX2_listUndoing l y t b (recR r) hI) (cwV 0 hts gX2_recover_X2_listUndoing rfl rfl rfl (by decide +kernel) ⟨Nat.le_of_ble_eq_true rfl, Nat.le_of_ble_eq_true rfl⟩) (va_recv hK hP (ci := 2) (q0 := 0) rfl rfl) hK hP hD hS hA hN rfl hl.1 rfl (Nat.le_of_ble_eq_true rfl) dX2_recover_41 ⟨Nat.le_of_ble_eq_true rfl, Nat.le_of_ble_eq_true rfl⟩ (fun H locs hP hD hS => ?_)
          have hO : AOK (undR (recR r)) := AOK_und hI
          refine lv_aload_n hx hb dX2_recover_44 rfl (lv_at hl 0 rfl) ?_
          refine callVi (rest := []) ⟨hx, hb, hml, hown, hts⟩ (mX2_go l y t b (undR (recR r)) hO) (cwV 0 hts gX2_recover_X2_go rfl rfl rfl (by decide +kernel) ⟨Nat.le_of_ble_eq_true rfl, Nat.le_of_ble_eq_true rfl⟩) (va_recv hK hP (ci := 2) (q0 := 0) rfl rfl) hK hP hD hS hA hN rfl hl.1 rfl (Nat.le_of_ble_eq_true rfl) dX2_recover_45 ⟨Nat.le_of_ble_eq_true rfl, Nat.le_of_ble_eq_true rfl⟩ (fun H locs hP hD hS => ?_)
          generalize hc1 : (goF (undR (recR r))).2 = c1 at hP hD
          have hP : va_P D vwCl (wR b y c1 t) H := hP
          have hD : va_D A (wR b y c1 t) := hD
          exact retGi hx hb hr hlocks hK hP hD hS dX2_recover_48 (by unfold recoverR; rw [if_neg (by rw [h4]; decide)]; rfl) (by unfold recoverR; rw [if_neg (by rw [h4]; decide)]; show _ = wR b y (goF _).2 t; rw [hc1])
        · refine lv_aload_n hx hb dX2_recover_22 rfl (lv_at hl 0 rfl) ?_
          refine rg_r1 hx hb hts hinX2 hown hK hP (hts (.fieldLink RX2 7 "FencedWordsModel" "seen" "[J") (List.mem_of_getElem? (i := 2) rfl)) dX2_recover_23 ?_
          refine lv_iload_n hx hb dX2_recover_26 rfl (lv_at hl 1 rfl) ?_
          refine lv_aload_n hx hb dX2_recover_27 rfl (lv_at hl 0 rfl) ?_
          refine rg_r2 hx hb hts hinX2 hown hK hP (hts (.fieldLink RX2 13 "FencedWordsModel" "kept" "[J") (List.mem_of_getElem? (i := 3) rfl)) dX2_recover_28 ?_
          refine lv_iload_n hx hb dX2_recover_31 rfl (lv_at hl 1 rfl) ?_
          refine rl_K hx hb hK hP (show i < 32 by omega) dX2_recover_32 ?_
          refine rt_S (v := r_K r i) hx hb hK hP hD hS (show i < 32 by omega) dX2_recover_33 (fun H locs hP hD hS => ?_)
          refine lv_iinc (v := nI (i + 1)) (lv' := [(1, .int (nI (i + 1))), (0, .ref (b 0))]) hx hb dX2_recover_34 hl (k := 1) rfl (nI_add i 1) (by decide) rfl (fun ls hl => ?_)
          refine lv_goto (tgt := 16) hx hb dX2_recover_37 (by decide) ?_
          have hP : va_P D vwCl (wR b y (rs_S (rs_S (rs_of r false) (va_cpy (r_K r) (r_S r) 0 0 i)) (vp_updL (va_cpy (r_K r) (r_S r) 0 0 i) i (r_K r i))) t) H := hP
          have hD : va_D A (wR b y (rs_S (rs_S (rs_of r false) (va_cpy (r_K r) (r_S r) 0 0 i)) (vp_updL (va_cpy (r_K r) (r_S r) 0 0 i) i (r_K r i))) t) := hD
          have e1 : vp_updL (va_cpy (r_K r) (r_S r) 0 0 i) i (r_K r i) = va_cpy (r_K r) (r_S r) 0 0 (i + 1) := (by have q := cpy_s (r_K r) (r_S r) 0 0 i; rw [Nat.zero_add] at q; exact q)
          rw [rss_S, e1] at hP hD
          exact ih16 (i + 1) _ _ _ (by omega) (by omega) hP hD hS (lv_sub hl [1, 0] rfl)
    have e0 : rs_of r false = rs_S (rs_of r false) (va_cpy (r_K r) (r_S r) 0 0 0) := (by rw [cpy_0]; rfl)
    rw [e0] at hP hD
    exact loop 33 0 _ _ _ (by omega) (by omega) hP hD hS (lv_sub hl [1, 0] rfl)
  · refine lv_iconst (v := (-1)) hx hb dX2_recover_7 (by decide) ?_
    exact retGi hx hb hr hlocks hK hP hD hS dX2_recover_8 (by unfold recoverR; rw [if_pos h4]) (by unfold recoverR; rw [if_pos h4])
theorem in_X2_X2_on : ∀ w ∈ wsX20, w ∈ wsX2_on := fun w h => List.mem_cons_of_mem _ (List.mem_append_right _ (h))
set_option maxHeartbeats 400000 in
set_option maxRecDepth 100000 in
theorem mX2_on (l : Launch) (y : Nat → ClassId) (t : va_W) (b : Nat → Nat) (r : RS)  : MGi l yX2_on wsX2_on 0 0 [.ref (b 0)] (tyA y) (wR b y r t) (bI (!(r_of r))) (wR b y r t) := by
  refine MGi.of (cc := cX2_on) (maxL := 1) (by decide) rfl (Nat.le_of_ble_eq_true rfl) ?_
  intro D p e s m below meth c0 A ls hx hb hr hml hown hlocks hts hK hP hD hA hN hl hS
  have hl : lv_has ls 1 [(0, .ref (b 0))] := hl
  have hinX2 : ∀ w ∈ u_ws RX2 TX2 19, w ∈ wsX2_on := in_X2_X2_on
  refine lv_aload_n hx hb dX2_on_0 rfl (lv_at hl 0 rfl) ?_
  refine rg_of hx hb hts hinX2 hown hK hP (hts (.fieldLink RX2 82 "FencedWordsModel" "off" "Z") (List.mem_of_getElem? (i := 1) rfl)) dX2_on_1 ?_
  refine q_ifb_ne (tgt := 11) hx hb dX2_on_4 (by decide) (fun (h4 : (r_of r) = true) => ?_) (fun (h4 : (r_of r) = false) => ?_)
  · refine lv_iconst (v := nI 0) hx hb dX2_on_11 (by decide) ?_
    exact retGz hx hb hr hlocks hK hP hD hS dX2_on_12 (by rw [h4]; rfl) rfl
  · refine lv_iconst (v := nI 1) hx hb dX2_on_7 (by decide) ?_
    refine lv_goto (tgt := 12) hx hb dX2_on_8 (by decide) ?_
    exact retGz hx hb hr hlocks hK hP hD hS dX2_on_12 (by rw [h4]; rfl) rfl
theorem in_X2_X2_open : ∀ w ∈ wsX20, w ∈ wsX2_open := fun w h => List.mem_cons_of_mem _ (List.mem_append_right _ (h))
set_option maxHeartbeats 400000 in
set_option maxRecDepth 100000 in
theorem mX2_open (l : Launch) (y : Nat → ClassId) (t : va_W) (b : Nat → Nat) (r : RS)  : MGi l yX2_open wsX2_open 0 0 [.ref (b 0)] (tyA y) (wR b y r t) (bI (r_op r)) (wR b y r t) := by
  refine MGi.of (cc := cX2_open) (maxL := 1) (by decide) rfl (Nat.le_of_ble_eq_true rfl) ?_
  intro D p e s m below meth c0 A ls hx hb hr hml hown hlocks hts hK hP hD hA hN hl hS
  have hl : lv_has ls 1 [(0, .ref (b 0))] := hl
  have hinX2 : ∀ w ∈ u_ws RX2 TX2 19, w ∈ wsX2_open := in_X2_X2_open
  refine lv_aload_n hx hb dX2_open_0 rfl (lv_at hl 0 rfl) ?_
  refine rg_op hx hb hts hinX2 hown hK hP (hts (.fieldLink RX2 86 "FencedWordsModel" "open" "Z") (List.mem_of_getElem? (i := 1) rfl)) dX2_open_1 ?_
  exact retGz hx hb hr hlocks hK hP hD hS dX2_open_4 rfl rfl
theorem in_X2_X2_seen : ∀ w ∈ wsX20, w ∈ wsX2_seen := fun w h => List.mem_cons_of_mem _ (List.mem_append_right _ (h))
set_option maxHeartbeats 400000 in
set_option maxRecDepth 100000 in
theorem mX2_seen (l : Launch) (y : Nat → ClassId) (t : va_W) (b : Nat → Nat) (r : RS) (x : Int32)  : MGl l yX2_seen wsX2_seen 1 20 [.ref (b 0), .int x] (tyA y) (wR b y r t) (seenR x r) (wR b y r t) := by
  refine MGl.of (cc := cX2_seen) (maxL := 2) (by decide) rfl (Nat.le_of_ble_eq_true rfl) ?_
  intro D p e s m below meth c0 A ls hx hb hr hml hown hlocks hts hK hP hD hA hN hl hS
  have hl : lv_has ls 2 [(0, .ref (b 0)), (1, .int x)] := hl
  have hinX2 : ∀ w ∈ u_ws RX2 TX2 19, w ∈ wsX2_seen := in_X2_X2_seen
  refine lv_aload_n hx hb dX2_seen_0 rfl (lv_at hl 0 rfl) ?_
  refine rg_of hx hb hts hinX2 hown hK hP (hts (.fieldLink RX2 82 "FencedWordsModel" "off" "Z") (List.mem_of_getElem? (i := 1) rfl)) dX2_seen_1 ?_
  refine q_ifb_ne (tgt := 14) hx hb dX2_seen_4 (by decide) (fun (h4 : (r_of r) = true) => ?_) (fun (h4 : (r_of r) = false) => ?_)
  · refine lv_lconst (v := 0) hx hb dX2_seen_14 (by decide) ?_
    refine lv_goto (tgt := 24) hx hb dX2_seen_15 (by decide) ?_
    exact retGl hx hb hr hlocks hK hP hD hS dX2_seen_24 (by unfold seenR; rw [if_pos h4]) rfl
  · refine lv_iload_n hx hb dX2_seen_7 rfl (lv_at hl 1 rfl) ?_
    refine callSi (rest := []) ⟨hx, hb, hml, hown, hts⟩ (mX2_word l y _ x) (va_cwS 1 hts gX2_seen_X2_word rfl rfl rfl (by decide +kernel) ⟨Nat.le_of_ble_eq_true rfl, Nat.le_of_ble_eq_true rfl⟩) hK hP hD hS hA hN rfl hl.1 rfl (Nat.le_of_ble_eq_true rfl) dX2_seen_8 ⟨Nat.le_of_ble_eq_true rfl, Nat.le_of_ble_eq_true rfl⟩ (fun H locs hP hD hS => ?_)
    refine q_ifb_ne (tgt := 18) hx hb dX2_seen_11 (by decide) (fun (h11 : (isV x) = true) => ?_) (fun (h11 : (isV x) = false) => ?_)
    · obtain ⟨k, rfl, q1⟩ := isV_nat h11
      refine lv_aload_n hx hb dX2_seen_18 rfl (lv_at hl 0 rfl) ?_
      refine rg_r1 hx hb hts hinX2 hown hK hP (hts (.fieldLink RX2 7 "FencedWordsModel" "seen" "[J") (List.mem_of_getElem? (i := 2) rfl)) dX2_seen_19 ?_
      refine lv_iload_n hx hb dX2_seen_22 rfl (lv_at hl 1 rfl) ?_
      refine rl_S hx hb hK hP (show k < 32 by omega) dX2_seen_23 ?_
      exact retGl hx hb hr hlocks hK hP hD hS dX2_seen_24 (by unfold seenR; rw [if_neg (by rw [h4]; decide), if_neg (by rw [h11]; decide), nI_clamp (by omega)]) rfl
    · refine lv_lconst (v := 0) hx hb dX2_seen_14 (by decide) ?_
      refine lv_goto (tgt := 24) hx hb dX2_seen_15 (by decide) ?_
      exact retGl hx hb hr hlocks hK hP hD hS dX2_seen_24 (by unfold seenR; rw [if_neg (by rw [h4]; decide), if_pos h11]) rfl
theorem in_X2_X2_kept : ∀ w ∈ wsX20, w ∈ wsX2_kept := fun w h => List.mem_cons_of_mem _ (List.mem_append_right _ (h))
set_option maxHeartbeats 400000 in
set_option maxRecDepth 100000 in
theorem mX2_kept (l : Launch) (y : Nat → ClassId) (t : va_W) (b : Nat → Nat) (r : RS) (x : Int32)  : MGl l yX2_kept wsX2_kept 1 20 [.ref (b 0), .int x] (tyA y) (wR b y r t) (keptR x r) (wR b y r t) := by
  refine MGl.of (cc := cX2_kept) (maxL := 2) (by decide) rfl (Nat.le_of_ble_eq_true rfl) ?_
  intro D p e s m below meth c0 A ls hx hb hr hml hown hlocks hts hK hP hD hA hN hl hS
  have hl : lv_has ls 2 [(0, .ref (b 0)), (1, .int x)] := hl
  have hinX2 : ∀ w ∈ u_ws RX2 TX2 19, w ∈ wsX2_kept := in_X2_X2_kept
  refine lv_iload_n hx hb dX2_kept_0 rfl (lv_at hl 1 rfl) ?_
  refine callSi (rest := []) ⟨hx, hb, hml, hown, hts⟩ (mX2_word l y _ x) (va_cwS 1 hts gX2_kept_X2_word rfl rfl rfl (by decide +kernel) ⟨Nat.le_of_ble_eq_true rfl, Nat.le_of_ble_eq_true rfl⟩) hK hP hD hS hA hN rfl hl.1 rfl (Nat.le_of_ble_eq_true rfl) dX2_kept_1 ⟨Nat.le_of_ble_eq_true rfl, Nat.le_of_ble_eq_true rfl⟩ (fun H locs hP hD hS => ?_)
  refine q_ifb_eq (tgt := 16) hx hb dX2_kept_4 (by decide) (fun (h4 : (isV x) = false) => ?_) (fun (h4 : (isV x) = true) => ?_)
  · refine lv_lconst (v := 0) hx hb dX2_kept_16 (by decide) ?_
    exact retGl hx hb hr hlocks hK hP hD hS dX2_kept_17 (by unfold keptR; rw [if_pos h4]) rfl
  · obtain ⟨k, rfl, q1⟩ := isV_nat h4
    refine lv_aload_n hx hb dX2_kept_7 rfl (lv_at hl 0 rfl) ?_
    refine rg_r2 hx hb hts hinX2 hown hK hP (hts (.fieldLink RX2 13 "FencedWordsModel" "kept" "[J") (List.mem_of_getElem? (i := 1) rfl)) dX2_kept_8 ?_
    refine lv_iload_n hx hb dX2_kept_11 rfl (lv_at hl 1 rfl) ?_
    refine rl_K hx hb hK hP (show k < 32 by omega) dX2_kept_12 ?_
    refine lv_goto (tgt := 17) hx hb dX2_kept_13 (by decide) ?_
    exact retGl hx hb hr hlocks hK hP hD hS dX2_kept_17 (by unfold keptR; rw [if_neg (by rw [h4]; decide), nI_clamp (by omega)]) rfl
theorem in_X2_X2_records : ∀ w ∈ wsX20, w ∈ wsX2_records := fun w h => List.mem_cons_of_mem _ (List.mem_append_right _ (h))
set_option maxHeartbeats 400000 in
set_option maxRecDepth 100000 in
theorem mX2_records (l : Launch) (y : Nat → ClassId) (t : va_W) (b : Nat → Nat) (r : RS)  : MGi l yX2_records wsX2_records 0 0 [.ref (b 0)] (tyA y) (wR b y r t) (nI (r_rc r)) (wR b y r t) := by
  refine MGi.of (cc := cX2_records) (maxL := 1) (by decide) rfl (Nat.le_of_ble_eq_true rfl) ?_
  intro D p e s m below meth c0 A ls hx hb hr hml hown hlocks hts hK hP hD hA hN hl hS
  have hl : lv_has ls 1 [(0, .ref (b 0))] := hl
  have hinX2 : ∀ w ∈ u_ws RX2 TX2 19, w ∈ wsX2_records := in_X2_X2_records
  refine lv_aload_n hx hb dX2_records_0 rfl (lv_at hl 0 rfl) ?_
  refine rg_rc hx hb hts hinX2 hown hK hP (hts (.fieldLink RX2 52 "FencedWordsModel" "records" "I") (List.mem_of_getElem? (i := 1) rfl)) dX2_records_1 ?_
  exact retGi hx hb hr hlocks hK hP hD hS dX2_records_4 rfl rfl
theorem in_X2_X2_meter : ∀ w ∈ wsX20, w ∈ wsX2_meter := fun w h => List.mem_cons_of_mem _ (List.mem_append_right _ (h))
set_option maxHeartbeats 400000 in
set_option maxRecDepth 100000 in
theorem mX2_meter (l : Launch) (y : Nat → ClassId) (t : va_W) (b : Nat → Nat) (r : RS)  : MGi l yX2_meter wsX2_meter 0 0 [.ref (b 0)] (tyA y) (wR b y r t) (r_me r) (wR b y r t) := by
  refine MGi.of (cc := cX2_meter) (maxL := 1) (by decide) rfl (Nat.le_of_ble_eq_true rfl) ?_
  intro D p e s m below meth c0 A ls hx hb hr hml hown hlocks hts hK hP hD hA hN hl hS
  have hl : lv_has ls 1 [(0, .ref (b 0))] := hl
  have hinX2 : ∀ w ∈ u_ws RX2 TX2 19, w ∈ wsX2_meter := in_X2_X2_meter
  refine lv_aload_n hx hb dX2_meter_0 rfl (lv_at hl 0 rfl) ?_
  refine rg_me hx hb hts hinX2 hown hK hP (hts (.fieldLink RX2 55 "FencedWordsModel" "meter" "I") (List.mem_of_getElem? (i := 1) rfl)) dX2_meter_1 ?_
  exact retGi hx hb hr hlocks hK hP hD hS dX2_meter_4 rfl rfl
