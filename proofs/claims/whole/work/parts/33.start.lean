set_option maxHeartbeats 1000000 in
set_option maxRecDepth 100000 in
theorem whole_start {p : Program} {e : Env} {s : State} {m : MethodId} {below : List Frame} {meth : Method} {c : Code} (l : Launch) {b L : Nat} {xs : Nat → Int32} (hL : L ≤ 2048) (C0 : lw_At p s m meth c b L xs) : W p l e room_1 s m #[Value.ref b] below meth c s.heap [] 0 0 (lw_Z below #[Value.ref b] s) (entryFrame m ([Value.ref b] : List Value).toArray 4) := by
  obtain ⟨hx, hb, hr, hml, hown, hts0, hX, hbl, hlocks, hgv⟩ := id C0
  have hown : s.vm.findClass RL = some m.cls := hown
  have hts : ∀ w ∈ wsL_law, w.before #[Value.ref b] s = true := fun w h => hts0 w (wsL_law_in w h)
  have hN : nwA s := ⟨va_Nw.of rfl (hts0 (.fieldLinkNest "FencedWords" 82 "FencedWords$Log" "size" "I" "FencedWords") (by decide +kernel)), va_Nw.of rfl (hts0 (.fieldLinkNest "FencedWords" 85 "FencedWords$Log" "cellsTaken" "I" "FencedWords") (by decide +kernel)), va_Nw.of rfl (hts0 (.fieldLinkNest "FencedWords" 117 "FencedWords$Log" "counts" "[I" "FencedWords") (by decide +kernel)), va_Nw.of rfl (hts0 (.fieldLinkNest "FencedWords" 121 "FencedWords$Log" "firsts" "[I" "FencedWords") (by decide +kernel)), va_Nw.of rfl (hts0 (.methodLinkNest "FencedWords$Log" 32 yX1_lineOf "FencedWords") (by decide +kernel))⟩
  have hA : ∀ q : Nat, s.heap.size ≤ q → (fun q : Nat => s.heap.size ≤ q) q := fun _ h => h
  obtain ⟨d0, iS0, hKn0⟩ := u_known (C := RX0) (T := TX0) (N := 8) (n := 8) hts0 inX0 (hts (.instantiable RX0 8) (List.mem_of_getElem? (i := 17) rfl))
  obtain ⟨d1, iS1, hKn1⟩ := u_known (C := RX1) (T := TX1) (N := 10) (n := 10) hts0 inX1 (hts (.instantiable RX1 10) (List.mem_of_getElem? (i := 1) rfl))
  obtain ⟨d2, iS2, hKn2⟩ := u_known (C := RX2) (T := TX2) (N := 19) (n := 19) hts0 inX2 (hts (.instantiable RX2 19) (List.mem_of_getElem? (i := 4) rfl))
  obtain ⟨dC, dI, hKc⟩ : ∃ (dC : Nat → ClassId) (dI : Nat → Nat → Nat), ∀ (k : Nat) (q : vw_C), vwCl[k]? = some q → u_Kn s q.1 q.2.1 q.2.2 (dC k) (dI k) := by
    refine ⟨fun k => if k = 0 then d0 else if k = 1 then d1 else d2, fun k => if k = 0 then iS0 else if k = 1 then iS1 else iS2, ?_⟩
    intro k q hq
    match k, hq with
    | 0, hq => cases hq; exact hKn0
    | 1, hq => cases hq; exact hKn1
    | 2, hq => cases hq; exact hKn2
    | k + 3, hq => simp [vwCl] at hq
  have hS : va_S (fun q : Nat => s.heap.size ≤ q) s.heap s.heap [] := va_S.rf
  have hK : va_K (dC, dI) vwCl [] s := ⟨hKc, fun k q h => by simp at h⟩
  have hP : va_P (dC, dI) vwCl [] s.heap := fun k q h => by simp at h
  have hD : va_D (fun q : Nat => s.heap.size ≤ q) [] := ⟨fun i j p q h => by simp at h, fun k q h => by simp at h⟩
  generalize (dC, dI) = D at hK hP
  have hl := lv_entry ([.ref b]) (n := 4) (Nat.le_of_ble_eq_true rfl)
  rw [lg_entry_eq]
  generalize (lg_sl ([.ref b]) ++ List.replicate (4 - (lg_sl ([.ref b])).length) Slot.unset).toArray = ls at hl ⊢
  have hl : lv_has ls 4 [(0, .ref b)] := hl
  refine va_new (ci := 1) (fs := [.null, .null, .null, .int (bI false), .int (bI false), .int (nI 0), .int (nI 0), .int (nI 0), .long 0, .int (nI 0)]) (C := RX1) (T := TX1) (N := 10) hx hb hts inlX1 tyX1 tyX1_ok hown (hts (.classLink RL 7 RX1) (List.mem_of_getElem? (i := 0) rfl)) (hts (.instantiable RX1 10) (List.mem_of_getElem? (i := 1) rfl)) (hts (.initialized RX1) (List.mem_of_getElem? (i := 2) rfl)) hK hP hD hS hA rfl (fun j hj => by rcases (show j = 0 ∨ j = 1 ∨ j = 2 ∨ j = 3 ∨ j = 4 ∨ j = 5 ∨ j = 6 ∨ j = 7 ∨ j = 8 ∨ j = 9 by omega) with rfl | rfl | rfl | rfl | rfl | rfl | rfl | rfl | rfl | rfl <;> rfl) (Nat.le_of_ble_eq_true rfl) (Nat.le_of_ble_eq_true rfl) dL_law_0 (fun q0 H hP hD hS => ?_)
  have hP : va_P D vwCl [(q0, .inr (1, [.null, .null, .null, .int (bI false), .int (bI false), .int (nI 0), .int (nI 0), .int (nI 0), .long 0, .int (nI 0)]))] H := hP
  have hD : va_D (fun q : Nat => s.heap.size ≤ q) [(q0, .inr (1, [.null, .null, .null, .int (bI false), .int (bI false), .int (nI 0), .int (nI 0), .int (nI 0), .long 0, .int (nI 0)]))] := hD
  refine lv_dup hx hb dL_law_3 rfl ?_
  have hPc := hP.sub (ws' := [(q0, .inr (1, [.null, .null, .null, .int (bI false), .int (bI false), .int (nI 0), .int (nI 0), .int (nI 0), .long 0, .int (nI 0)]))]) [0] rfl
  have hDc := hD.sub (ws' := [(q0, .inr (1, [.null, .null, .null, .int (bI false), .int (bI false), .int (nI 0), .int (nI 0), .int (nI 0), .long 0, .int (nI 0)]))]) [0] (by decide) rfl
  have hKc := hK.sub (tys' := []) [] rfl
  have hFc := va_free (wc := [(q0, .inr (1, [.null, .null, .null, .int (bI false), .int (bI false), .int (nI 0), .int (nI 0), .int (nI 0), .long 0, .int (nI 0)]))]) hD hS hA [0] rfl
  refine va_callv (va_runI (As := []) (rest := [.ref q0]) ⟨hx, hb, hml, hown, hts⟩ (k_FW l D q0 H.size) (cwI 0 hts gL_law_X1_init rfl rfl rfl (hts (.initialized RX1) (List.mem_of_getElem? (i := 2) rfl)) (hts (.methodLink RL 9 yX1_init) (List.mem_of_getElem? (i := 7) rfl)) (hts (.instanceMethod yX1_init) (List.mem_of_getElem? (i := 8) rfl)) rfl (by decide +kernel) ⟨Nat.le_of_ble_eq_true rfl, Nat.le_of_ble_eq_true rfl⟩) ⟨fun a U g mk q => by obtain ⟨q0, q1, qP, qK, qD⟩ := q; exact ⟨q0, q1, qP, va_K.moved (u := U) (U := U.calling g mk a) (Vm.Alike.refl U.vm) qK, qD⟩, fun U hU hW => ⟨rfl, by rw [hU], by rw [hU]; exact hPc, va_K.moved hW.alike hKc, hDc.weaken (fun _ _ _ _ => trivial)⟩⟩ rfl rfl hl.1 rfl (lv_room (Nat.le_of_ble_eq_true rfl)) dL_law_4 ⟨Nat.le_of_ble_eq_true rfl, Nat.le_of_ble_eq_true rfl⟩) hS (fun q _ h => hFc q h) hFc (fun u t H1 locs ht hvm hw hB hz1 hk1 hS => ?_)
  obtain ⟨a, y1, ea, hP1, hK1, hD1⟩ := hB
  rw [ht] at hP1
  have hK1 := va_K.moved hvm.symm hK1
  obtain ⟨hP, hD⟩ := va_join (wr := []) (w1 := wC a y1 cs0 []) hP hD [0] [] rfl rfl (by decide) (by decide) hk1 hFc hP1 hD1
  generalize H1 = H at hP hS ⊢
  have hP : va_P D vwCl (wC a y1 cs0 []) H := hP
  have hD : va_D (fun q : Nat => s.heap.size ≤ q) (wC a y1 cs0 []) := hD
  refine lv_astore_n (lv' := [(1, .ref q0), (0, .ref b)]) hx hb dL_law_7 rfl hl (by decide) rfl (fun ls hl => ?_)
  refine va_new (ci := 2) (fs := [.null, .null, .null, .int (nI 0), .null, .null, .null, .null, .null, .int (bI false), .int (bI false), .null, .int (nI 0), .long 0, .int (nI 0), .int (nI 0), .null, .null, .null]) (C := RX2) (T := TX2) (N := 19) hx hb hts inlX2 tyX2 tyX2_ok hown (hts (.classLink RL 10 RX2) (List.mem_of_getElem? (i := 3) rfl)) (hts (.instantiable RX2 19) (List.mem_of_getElem? (i := 4) rfl)) (hts (.initialized RX2) (List.mem_of_getElem? (i := 5) rfl)) hK1 hP hD hS hA rfl (fun j hj => by rcases (show j = 0 ∨ j = 1 ∨ j = 2 ∨ j = 3 ∨ j = 4 ∨ j = 5 ∨ j = 6 ∨ j = 7 ∨ j = 8 ∨ j = 9 ∨ j = 10 ∨ j = 11 ∨ j = 12 ∨ j = 13 ∨ j = 14 ∨ j = 15 ∨ j = 16 ∨ j = 17 ∨ j = 18 by omega) with rfl | rfl | rfl | rfl | rfl | rfl | rfl | rfl | rfl | rfl | rfl | rfl | rfl | rfl | rfl | rfl | rfl | rfl | rfl <;> rfl) (Nat.le_of_ble_eq_true rfl) (Nat.le_of_ble_eq_true rfl) dL_law_8 (fun q1 H hP hD hS => ?_)
  have hP : va_P D vwCl (wC a y1 cs0 [(q1, .inr (2, [.null, .null, .null, .int (nI 0), .null, .null, .null, .null, .null, .int (bI false), .int (bI false), .null, .int (nI 0), .long 0, .int (nI 0), .int (nI 0), .null, .null, .null]))]) H := hP
  have hD : va_D (fun q : Nat => s.heap.size ≤ q) (wC a y1 cs0 [(q1, .inr (2, [.null, .null, .null, .int (nI 0), .null, .null, .null, .null, .null, .int (bI false), .int (bI false), .null, .int (nI 0), .long 0, .int (nI 0), .int (nI 0), .null, .null, .null]))]) := hD
  refine lv_dup hx hb dL_law_11 rfl ?_
  have hPc := hP.sub (ws' := [(q1, .inr (2, [.null, .null, .null, .int (nI 0), .null, .null, .null, .null, .null, .int (bI false), .int (bI false), .null, .int (nI 0), .long 0, .int (nI 0), .int (nI 0), .null, .null, .null]))]) [8] rfl
  have hDc := hD.sub (ws' := [(q1, .inr (2, [.null, .null, .null, .int (nI 0), .null, .null, .null, .null, .null, .int (bI false), .int (bI false), .null, .int (nI 0), .long 0, .int (nI 0), .int (nI 0), .null, .null, .null]))]) [8] (by decide) rfl
  have hFc := va_free (wc := [(q1, .inr (2, [.null, .null, .null, .int (nI 0), .null, .null, .null, .null, .null, .int (bI false), .int (bI false), .null, .int (nI 0), .long 0, .int (nI 0), .int (nI 0), .null, .null, .null]))]) hD hS hA [8] rfl
  refine va_callv (va_runI (As := []) (rest := [.ref q1]) ⟨hx, hb, hml, hown, hts⟩ (k_Mo l D q1 H.size) (cwI 0 hts gL_law_X2_init rfl rfl rfl (hts (.initialized RX2) (List.mem_of_getElem? (i := 5) rfl)) (hts (.methodLink RL 12 yX2_init) (List.mem_of_getElem? (i := 30) rfl)) (hts (.instanceMethod yX2_init) (List.mem_of_getElem? (i := 31) rfl)) rfl (by decide +kernel) ⟨Nat.le_of_ble_eq_true rfl, Nat.le_of_ble_eq_true rfl⟩) ⟨fun a U g mk q => by obtain ⟨q0, q1, qP, qK, qD⟩ := q; exact ⟨q0, q1, qP, va_K.moved (u := U) (U := U.calling g mk a) (Vm.Alike.refl U.vm) qK, qD⟩, fun U hU hW => ⟨rfl, by rw [hU], by rw [hU]; exact hPc, va_K.moved hW.alike hKc, hDc.weaken (fun _ _ _ _ => trivial)⟩⟩ rfl rfl hl.1 rfl (lv_room (Nat.le_of_ble_eq_true rfl)) dL_law_12 ⟨Nat.le_of_ble_eq_true rfl, Nat.le_of_ble_eq_true rfl⟩) hS (fun q _ h => hFc q h) hFc (fun u t H1 locs ht hvm hw hB hz1 hk1 hS => ?_)
  obtain ⟨b2, y2, eb, hP1, hK2, hD1⟩ := hB
  rw [ht] at hP1
  have hK2 := va_K.moved hvm.symm hK2
  obtain ⟨hP, hD⟩ := va_join (wr := wC a y1 cs0 []) (w1 := wR b2 y2 rs0 []) hP hD [8] [0, 1, 2, 3, 4, 5, 6, 7] rfl rfl (by decide) (by decide) hk1 hFc hP1 hD1
  generalize H1 = H at hP hS ⊢
  have hP : va_P D vwCl (wC a y1 cs0 (wR b2 y2 rs0 [])) H := hP
  have hD : va_D (fun q : Nat => s.heap.size ≤ q) (wC a y1 cs0 (wR b2 y2 rs0 [])) := hD
  have hK3 := hK1.app hK2
  have e0 : y1 0 = y2 0 := K_uniq hK3 (i := 0) (j := 2) (ty := .int) rfl rfl rfl
  have e1 : y1 1 = y2 1 := K_uniq hK3 (i := 1) (j := 3) (ty := .long) rfl rfl rfl
  rw [wC_y e0 e1] at hP hD
  refine lv_astore_n (lv' := [(2, .ref q1), (1, .ref q0), (0, .ref b)]) hx hb dL_law_15 rfl hl (by decide) rfl (fun ls hl => ?_)
  refine lv_iconst (v := nI 0) hx hb dL_law_16 (by decide) ?_
  refine lv_istore_n (lv' := [(3, .int (nI 0)), (2, .ref q1), (1, .ref q0), (0, .ref b)]) hx hb dL_law_17 rfl hl (by decide) rfl (fun ls hl => ?_)
  rw [← ea, ← eb] at hl
  refine W.widen (k := 21) (n := 585) (by omega) (by omega) ?_
  exact law_loop hL C0 hK2 hN (L + 1) 0 cs0 rs0 _ _ _ (Nat.zero_le L) (by omega) RA_0 hP hD hS (lv_sub hl [3, 2, 1, 0] rfl)
