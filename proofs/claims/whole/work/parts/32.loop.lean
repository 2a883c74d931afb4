set_option maxHeartbeats 1000000 in
set_option maxRecDepth 100000 in
theorem law_loop {p : Program} {l : Launch} {e : Env} {s : State} {m : MethodId} {below : List Frame} {meth : Method} {c0 : Code} {D : va_G} {b0 L : Nat} {xs : Nat → Int32} (hL : L ≤ 2048) (C0 : lw_At p s m meth c0 b0 L xs) {a b : Nat → Nat} {y : Nat → ClassId} (hK : va_K D vwCl (tyA y) s) (hN : nwA s) : ∀ (n i : Nat) (c : CS) (r : RS) (H : Heap) (locs : List Loc) (ls : Array Slot), i ≤ L → L + 1 ≤ i + n → RA c r → va_P D vwCl (wC a y c (wR b y r [])) H → va_D (fun q : Nat => s.heap.size ≤ q) (wC a y c (wR b y r [])) → va_S (fun q : Nat => s.heap.size ≤ q) s.heap H locs → lv_has ls 4 [(0, .ref b0), (1, .ref (a 0)), (2, .ref (b 0)), (3, .int (nI i))] → W p l e room_1 s m #[Value.ref b0] below meth c0 H locs 21 585 (lw_Z below #[Value.ref b0] s) (F0 m 18 ls []) := by
  have C1 := C0
  obtain ⟨hx, hb, hr, hml, hown, hts0, hX, hbl, hlocks, hgv⟩ := C0
  have hown : s.vm.findClass RL = some m.cls := hown
  have hts : ∀ w ∈ wsL_law, w.before #[Value.ref b0] s = true := fun w h => hts0 w (wsL_law_in w h)
  have hA : ∀ q : Nat, s.heap.size ≤ q → (fun q : Nat => s.heap.size ≤ q) q := fun _ h => h
  have hbA : ¬ (fun q : Nat => s.heap.size ≤ q) b0 := Nat.not_le.mpr hbl
  intro n
  induction n with
  | zero =>
    intro i c r H locs ls h1 h2
    exact absurd h2 (by omega)
  | succ n ih =>
    intro i c r H locs ls hi hin hR hP hD hS hl
    refine lv_iload_n hx hb dL_law_18 rfl (lv_at hl 3 rfl) ?_
    refine lv_aload_n hx hb dL_law_19 rfl (lv_at hl 0 rfl) ?_
    refine va_slen hx hb hX hbl hbA hS dL_law_20 ?_
    refine lv_iconst (v := nI 4) hx hb dL_law_21 (by decide) ?_
    refine lv_isub hx hb dL_law_22 ?_
    refine lv_icmp_gt (tgt := 434) hx hb dL_law_23 (by decide) (fun (_ : nI L - nI 4 < nI i) => ?_) (fun (h23 : ¬ nI L - nI 4 < nI i) => ?_)
    · refine lv_iconst (v := 1) hx hb dL_law_434 (by decide) ?_
      refine va_forget (fun q hq => hS.2.2 q hq) ?_
      exact lw_ret hx hb hr hlocks dL_law_435
    · have hlt : i + 4 ≤ L := Nat.not_lt.mp (fun q => h23 ((law_go hL hi).mpr q))
      refine lv_aload_n hx hb dL_law_26 rfl (lv_at hl 0 rfl) ?_
      refine lv_iload_n hx hb dL_law_27 rfl (lv_at hl 3 rfl) ?_
      refine va_sld hx hb hX hbl hbA hS (vp_in_nI (show i < L by omega) (by omega)) dL_law_28 ?_
      refine lv_bipush (v := nI 15) hx hb dL_law_29 (by decide) ?_
      refine lv_iand hx hb dL_law_31 ?_
      obtain ⟨j, hj, ej⟩ := pk_andE (xs (nI i).toNatClampNeg) (m := nI 15) 4 (by decide)
      rw [ej]
      have k : ∀ (c1 : CS) (r1 : RS), RA c1 r1 → ∀ (H : Heap) (locs : List Loc), va_P D vwCl (wC a y c1 (wR b y r1 [])) H → va_D (fun q : Nat => s.heap.size ≤ q) (wC a y c1 (wR b y r1 [])) → va_S (fun q : Nat => s.heap.size ≤ q) s.heap H locs → W p l e room_1 s m #[Value.ref b0] below meth c0 H locs 21 585 (lw_Z below #[Value.ref b0] s) (F0 m 428 ls []) := by
        intro c1 r1 hR1 H locs hP hD hS
        refine lv_iinc (v := nI (i + 4)) (lv' := [(3, .int (nI (i + 4))), (0, .ref b0), (1, .ref (a 0)), (2, .ref (b 0))]) hx hb dL_law_428 hl (k := 3) rfl (nI_add i 4) (by decide) rfl (fun ls hl => ?_)
        refine lv_goto (tgt := 18) hx hb dL_law_431 (by decide) ?_
        exact ih (i + 4) c1 r1 _ _ _ hlt (by omega) hR1 hP hD hS (lv_sub hl [1, 2, 3, 0] rfl)
      have hc : j = 0 ∨ j = 1 ∨ j = 2 ∨ j = 3 ∨ j = 4 ∨ j = 5 ∨ j = 6 ∨ j = 7 ∨ j = 8 ∨ j = 9 ∨ j = 10 ∨ j = 11 ∨ j = 12 ∨ j = 13 ∨ j = 14 ∨ j = 15 := by omega
      rcases hc with rfl | rfl | rfl | rfl | rfl | rfl | rfl | rfl | rfl | rfl | rfl | rfl | rfl | rfl | rfl | rfl
      · refine lv_tableIn (off := 72) (tgt := 104) hx hb dL_law_32 (by decide) (by decide) (by decide) (by decide) ?_
        exact law_0 hL C1 hK hN hlt hR hl k H locs hP hD hS
      · refine lv_tableIn (off := 135) (tgt := 167) hx hb dL_law_32 (by decide) (by decide) (by decide) (by decide) ?_
        exact law_1 hL C1 hK hN hlt hR hl k H locs hP hD hS
      · refine lv_tableIn (off := 148) (tgt := 180) hx hb dL_law_32 (by decide) (by decide) (by decide) (by decide) ?_
        exact law_2 hL C1 hK hN hlt hR hl k H locs hP hD hS
      · refine lv_tableIn (off := 181) (tgt := 213) hx hb dL_law_32 (by decide) (by decide) (by decide) (by decide) ?_
        exact law_3 hL C1 hK hN hlt hR hl k H locs hP hD hS
      · refine lv_tableIn (off := 244) (tgt := 276) hx hb dL_law_32 (by decide) (by decide) (by decide) (by decide) ?_
        exact law_4 hL C1 hK hN hlt hR hl k H locs hP hD hS
      · refine lv_tableIn (off := 257) (tgt := 289) hx hb dL_law_32 (by decide) (by decide) (by decide) (by decide) ?_
        exact law_5 hL C1 hK hN hlt hR hl k H locs hP hD hS
      · refine lv_tableIn (off := 270) (tgt := 302) hx hb dL_law_32 (by decide) (by decide) (by decide) (by decide) ?_
        exact law_6 hL C1 hK hN hlt hR hl k H locs hP hD hS
      · refine lv_tableIn (off := 283) (tgt := 315) hx hb dL_law_32 (by decide) (by decide) (by decide) (by decide) ?_
        exact law_7 hL C1 hK hN hlt hR hl k H locs hP hD hS
      · refine lv_tableIn (off := 296) (tgt := 328) hx hb dL_law_32 (by decide) (by decide) (by decide) (by decide) ?_
        exact law_8 hL C1 hK hN hlt hR hl k H locs hP hD hS
      · refine lv_tableIn (off := 309) (tgt := 341) hx hb dL_law_32 (by decide) (by decide) (by decide) (by decide) ?_
        exact law_9 hL C1 hK hN hlt hR hl k H locs hP hD hS
      · refine lv_tableIn (off := 333) (tgt := 365) hx hb dL_law_32 (by decide) (by decide) (by decide) (by decide) ?_
        exact law_10 hL C1 hK hN hlt hR hl k H locs hP hD hS
      · refine lv_tableIn (off := 357) (tgt := 389) hx hb dL_law_32 (by decide) (by decide) (by decide) (by decide) ?_
        exact law_11 hL C1 hK hN hlt hR hl k H locs hP hD hS
      · refine lv_tableIn (off := 370) (tgt := 402) hx hb dL_law_32 (by decide) (by decide) (by decide) (by decide) ?_
        exact law_12 hL C1 hK hN hlt hR hl k H locs hP hD hS
      · refine lv_tableIn (off := 383) (tgt := 415) hx hb dL_law_32 (by decide) (by decide) (by decide) (by decide) ?_
        exact law_13 hL C1 hK hN hlt hR hl k H locs hP hD hS
      · refine lv_tableOut (tgt := 428) hx hb dL_law_32 (Or.inr (by decide)) (by decide) ?_
        exact k c r hR H locs hP hD hS
      · refine lv_tableOut (tgt := 428) hx hb dL_law_32 (Or.inr (by decide)) (by decide) ?_
        exact k c r hR H locs hP hD hS
