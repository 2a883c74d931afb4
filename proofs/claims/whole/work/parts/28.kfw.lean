set_option maxHeartbeats 1000000 in
set_option maxRecDepth 100000 in
theorem k_FW (l : Launch) (D : va_G) (h0 sz : Nat) : Met l yX1_init wsX1_init ({ frames := 2, cells := 7, slots := 172, locals := 32 }) (va_Pc [.ref h0] (fun U => U.heap.size = sz ∧ va_P D vwCl [(h0, .inr (1, [.null, .null, .null, .int (bI false), .int (bI false), .int (nI 0), .int (nI 0), .int (nI 0), .long 0, .int (nI 0)]))] U.heap ∧ va_K D vwCl [] U ∧ va_D (fun _ => True) [(h0, .inr (1, [.null, .null, .null, .int (bI false), .int (bI false), .int (nI 0), .int (nI 0), .int (nI 0), .long 0, .int (nI 0)]))])) (va_Qv (fun _ : Unit => True) (fun _ t => ∃ (a : Nat → Nat) (y : Nat → ClassId), a 0 = h0 ∧ va_P D vwCl (wC a y cs0 []) t.heap ∧ va_K D vwCl [(y 0, .int), (y 1, .long)] t ∧ va_D (va_A [(h0, .inr (1, [.null, .null, .null, .int (bI false), .int (bI false), .int (nI 0), .int (nI 0), .int (nI 0), .long 0, .int (nI 0)]))] sz) (wC a y cs0 [])) (va_A [(h0, .inr (1, [.null, .null, .null, .int (bI false), .int (bI false), .int (nI 0), .int (nI 0), .int (nI 0), .long 0, .int (nI 0)]))] sz)) 7 172 (va_A [(h0, .inr (1, [.null, .null, .null, .int (bI false), .int (bI false), .int (nI 0), .int (nI 0), .int (nI 0), .long 0, .int (nI 0)]))] sz) := by
  refine Met.ofW (cc := cX1_init) (maxL := 1) (ret := none) (by decide) rfl ?_
  intro p e s m args below meth c s₁ B hml hv
  obtain ⟨rfl, hsz, hP, hK, hD0⟩ := hv
  have hx := B.exec
  have hb := B.bytes
  have hr := B.returns
  have hts := atoms_spec (ws := wsX1_init) B.pre
  have hown : s.vm.findClass RX1 = some m.cls := findClass_of_methodNamed B.named
  have hlocks := B.notSynchronized
  have hini : meth.name = "<init>" := (name_of_methodNamed B.named B.method).1
  subst hsz
  have hD := hD0.self (sz := s.heap.size)
  generalize hAe : va_A [(h0, .inr (1, [.null, .null, .null, .int (bI false), .int (bI false), .int (nI 0), .int (nI 0), .int (nI 0), .long 0, .int (nI 0)]))] s.heap.size = A at hD ⊢
  have hA : ∀ q : Nat, s.heap.size ≤ q → A q := fun q h => by rw [← hAe]; exact Or.inr h
  have hS : va_S A s.heap s.heap [] := va_S.rf
  have hl := lv_entry ([.ref h0]) (n := 1) (Nat.le_of_ble_eq_true rfl)
  rw [lg_entry_eq]
  generalize (lg_sl ([.ref h0]) ++ List.replicate (1 - (lg_sl ([.ref h0])).length) Slot.unset).toArray = ls at hl ⊢
  have hl : lv_has ls 1 [(0, .ref h0)] := hl
  have hin : ∀ w ∈ u_ws RX1 TX1 10, w ∈ wsX1_init := fun w h => List.mem_cons_of_mem _ (List.mem_append_left _ (List.mem_append_right _ (h)))
  have hin0 : ∀ w ∈ u_ws RX0 TX0 8, w ∈ wsX1_init := fun w h => List.mem_cons_of_mem _ (List.mem_append_right _ (h))
  refine lv_aload_n hx hb dX1_init_0 rfl (lv_at hl 0 rfl) ?_
  refine W.objInit hx hb hown (hts (.methodLink RX1 1 objectInit) (List.mem_of_getElem? (i := 1) rfl)) (hts (.instanceMethod objectInit) (List.mem_of_getElem? (i := 2) rfl)) (hts (.code objectInit ⟨#[0xb1]⟩ 1 none) (List.mem_of_getElem? (i := 3) rfl)) rfl (by rw [hml]; exact hl.1) rfl dX1_init_1 (Nat.le_of_ble_eq_true rfl) (Nat.le_of_ble_eq_true rfl) ?_
  refine W.eq (g2 := F0 m 4 ls []) rfl ?_
  refine lv_aload_n hx hb dX1_init_4 rfl (lv_at hl 0 rfl) ?_
  refine lv_bipush (v := nI 32) hx hb dX1_init_5 (by decide) ?_
  refine va_newa (atype := .long) (ty := .long) (a0 := (32, .inr (.inl (fun _ => 0)))) (N' := 32) hx hb (hts (.arrayClass .long) (List.mem_of_getElem? (i := 4) rfl)) rfl hK hP hD hS hA (ac_long 32) (nI_pos (by decide)) (nI_clamp (by decide)) (by rw [cb_long]; omega) (Nat.le_of_ble_eq_true rfl) (Nat.le_of_ble_eq_true rfl) dX1_init_7 (fun q1 k1 H hK hP hD hS => ?_)
  have hK : va_K D vwCl [(k1, .long)] s := hK
  have hP : va_P D vwCl [(h0, .inr (1, [.null, .null, .null, .int (bI false), .int (bI false), .int (nI 0), .int (nI 0), .int (nI 0), .long 0, .int (nI 0)])), (q1, .inl (k1, 32, .inr (.inl (fun _ => 0))))] H := hP
  have hD : va_D A [(h0, .inr (1, [.null, .null, .null, .int (bI false), .int (bI false), .int (nI 0), .int (nI 0), .int (nI 0), .long 0, .int (nI 0)])), (q1, .inl (k1, 32, .inr (.inl (fun _ => 0))))] := hD
  refine va_putF (D := D) (ci := 1) (v := .ref q1) (ty := .array .long) (C := RX1) (T := TX1) (N := 10) hx hb hts hin tyX1 tyX1_ok nmX1 hown hK hP hD hS 0 rfl rfl 0 (by decide) (hts (.fieldLink RX1 9 "FencedWords" "seenValues" "[J") (List.mem_of_getElem? (i := 5) rfl)) (fun _ h9 => h9) rfl hini rfl (by decide +kernel) rfl rfl (Nat.le_of_ble_eq_true rfl) dX1_init_9 (fun H locs hP hD hS => ?_)
  have hP : va_P D vwCl [(h0, .inr (1, [.ref q1, .null, .null, .int (bI false), .int (bI false), .int (nI 0), .int (nI 0), .int (nI 0), .long 0, .int (nI 0)])), (q1, .inl (k1, 32, .inr (.inl (fun _ => 0))))] H := hP
  have hD : va_D A [(h0, .inr (1, [.ref q1, .null, .null, .int (bI false), .int (bI false), .int (nI 0), .int (nI 0), .int (nI 0), .long 0, .int (nI 0)])), (q1, .inl (k1, 32, .inr (.inl (fun _ => 0))))] := hD
  refine lv_aload_n hx hb dX1_init_12 rfl (lv_at hl 0 rfl) ?_
  refine lv_bipush (v := nI 32) hx hb dX1_init_13 (by decide) ?_
  refine va_newa (atype := .long) (ty := .long) (a0 := (32, .inr (.inl (fun _ => 0)))) (N' := 32) hx hb (hts (.arrayClass .long) (List.mem_of_getElem? (i := 4) rfl)) rfl hK hP hD hS hA (ac_long 32) (nI_pos (by decide)) (nI_clamp (by decide)) (by rw [cb_long]; omega) (Nat.le_of_ble_eq_true rfl) (Nat.le_of_ble_eq_true rfl) dX1_init_15 (fun q2 k2 H hK hP hD hS => ?_)
  have ek : k1 = k2 := K_uniq hK (i := 0) (j := 1) (ty := .long) rfl rfl rfl
  subst ek
  have hK := hK.sub (tys' := [(k1, .long)]) [0] rfl
  have hP : va_P D vwCl [(h0, .inr (1, [.ref q1, .null, .null, .int (bI false), .int (bI false), .int (nI 0), .int (nI 0), .int (nI 0), .long 0, .int (nI 0)])), (q1, .inl (k1, 32, .inr (.inl (fun _ => 0)))), (q2, .inl (k1, 32, .inr (.inl (fun _ => 0))))] H := hP
  have hD : va_D A [(h0, .inr (1, [.ref q1, .null, .null, .int (bI false), .int (bI false), .int (nI 0), .int (nI 0), .int (nI 0), .long 0, .int (nI 0)])), (q1, .inl (k1, 32, .inr (.inl (fun _ => 0)))), (q2, .inl (k1, 32, .inr (.inl (fun _ => 0))))] := hD
  refine va_putF (D := D) (ci := 1) (v := .ref q2) (ty := .array .long) (C := RX1) (T := TX1) (N := 10) hx hb hts hin tyX1 tyX1_ok nmX1 hown hK hP hD hS 0 rfl rfl 1 (by decide) (hts (.fieldLink RX1 13 "FencedWords" "keptValues" "[J") (List.mem_of_getElem? (i := 6) rfl)) (fun _ h9 => h9) rfl hini rfl (by decide +kernel) rfl rfl (Nat.le_of_ble_eq_true rfl) dX1_init_17 (fun H locs hP hD hS => ?_)
  have hP : va_P D vwCl [(h0, .inr (1, [.ref q1, .ref q2, .null, .int (bI false), .int (bI false), .int (nI 0), .int (nI 0), .int (nI 0), .long 0, .int (nI 0)])), (q1, .inl (k1, 32, .inr (.inl (fun _ => 0)))), (q2, .inl (k1, 32, .inr (.inl (fun _ => 0))))] H := hP
  have hD : va_D A [(h0, .inr (1, [.ref q1, .ref q2, .null, .int (bI false), .int (bI false), .int (nI 0), .int (nI 0), .int (nI 0), .long 0, .int (nI 0)])), (q1, .inl (k1, 32, .inr (.inl (fun _ => 0)))), (q2, .inl (k1, 32, .inr (.inl (fun _ => 0))))] := hD
  refine lv_aload_n hx hb dX1_init_20 rfl (lv_at hl 0 rfl) ?_
  refine va_new (ci := 0) (fs := [.null, .null, .null, .null, .int (nI 0), .int (nI 0), .int (bI false), .int (bI false)]) (C := RX0) (T := TX0) (N := 8) hx hb hts hin0 tyX0 tyX0_ok hown (hts (.classLink RX1 16 RX0) (List.mem_of_getElem? (i := 7) rfl)) (hts (.instantiable RX0 8) (List.mem_of_getElem? (i := 8) rfl)) (hts (.initialized RX0) (List.mem_of_getElem? (i := 9) rfl)) hK hP hD hS hA rfl (fun j hj => by rcases (show j = 0 ∨ j = 1 ∨ j = 2 ∨ j = 3 ∨ j = 4 ∨ j = 5 ∨ j = 6 ∨ j = 7 by omega) with rfl | rfl | rfl | rfl | rfl | rfl | rfl | rfl <;> rfl) (Nat.le_of_ble_eq_true rfl) (Nat.le_of_ble_eq_true rfl) dX1_init_21 (fun q3 H hP hD hS => ?_)
  have hP : va_P D vwCl [(h0, .inr (1, [.ref q1, .ref q2, .null, .int (bI false), .int (bI false), .int (nI 0), .int (nI 0), .int (nI 0), .long 0, .int (nI 0)])), (q1, .inl (k1, 32, .inr (.inl (fun _ => 0)))), (q2, .inl (k1, 32, .inr (.inl (fun _ => 0)))), (q3, .inr (0, [.null, .null, .null, .null, .int (nI 0), .int (nI 0), .int (bI false), .int (bI false)]))] H := hP
  have hD : va_D A [(h0, .inr (1, [.ref q1, .ref q2, .null, .int (bI false), .int (bI false), .int (nI 0), .int (nI 0), .int (nI 0), .long 0, .int (nI 0)])), (q1, .inl (k1, 32, .inr (.inl (fun _ => 0)))), (q2, .inl (k1, 32, .inr (.inl (fun _ => 0)))), (q3, .inr (0, [.null, .null, .null, .null, .int (nI 0), .int (nI 0), .int (bI false), .int (bI false)]))] := hD
  refine lv_dup hx hb dX1_init_24 rfl ?_
  have hPc := hP.sub (ws' := [(q3, .inr (0, [.null, .null, .null, .null, .int (nI 0), .int (nI 0), .int (bI false), .int (bI false)]))]) [3] rfl
  have hDc := hD.sub (ws' := [(q3, .inr (0, [.null, .null, .null, .null, .int (nI 0), .int (nI 0), .int (bI false), .int (bI false)]))]) [3] (by decide) rfl
  have hKc := hK.sub (tys' := []) [] rfl
  have hFc := va_free (wc := [(q3, .inr (0, [.null, .null, .null, .null, .int (nI 0), .int (nI 0), .int (bI false), .int (bI false)]))]) hD hS hA [3] rfl
  refine va_callv (va_runI (As := []) (rest := [.ref q3, .ref h0]) ⟨hx, hb, hml, hown, hts⟩ (k_Log l D q3 H.size) (cwI 0 hts gX1_init_X0_init rfl rfl rfl (hts (.initialized RX0) (List.mem_of_getElem? (i := 9) rfl)) (hts (.methodLink RX1 18 yX0_init) (List.mem_of_getElem? (i := 12) rfl)) (hts (.instanceMethod yX0_init) (List.mem_of_getElem? (i := 13) rfl)) rfl (by decide +kernel) ⟨Nat.le_of_ble_eq_true rfl, Nat.le_of_ble_eq_true rfl⟩) ⟨fun a U g mk q => by obtain ⟨q0, q1, qP, qK, qD⟩ := q; exact ⟨q0, q1, qP, va_K.moved (u := U) (U := U.calling g mk a) (Vm.Alike.refl U.vm) qK, qD⟩, fun U hU hW => ⟨rfl, by rw [hU], by rw [hU]; exact hPc, va_K.moved hW.alike hKc, hDc.weaken (fun _ _ _ _ => trivial)⟩⟩ rfl rfl hl.1 rfl (lv_room (Nat.le_of_ble_eq_true rfl)) dX1_init_25 ⟨Nat.le_of_ble_eq_true rfl, Nat.le_of_ble_eq_true rfl⟩) hS (fun q _ h => hFc q h) hFc (fun u t H1 locs ht hvm hw hB hz1 hk1 hS => ?_)
  obtain ⟨p1, p2, p3, p4, z1, z2, hP1, hK1, hD1⟩ := hB
  rw [ht] at hP1
  have hK1 := va_K.moved hvm.symm hK1
  obtain ⟨hP, hD⟩ := va_join (wr := [(h0, .inr (1, [.ref q1, .ref q2, .null, .int (bI false), .int (bI false), .int (nI 0), .int (nI 0), .int (nI 0), .long 0, .int (nI 0)])), (q1, .inl (k1, 32, .inr (.inl (fun _ => 0)))), (q2, .inl (k1, 32, .inr (.inl (fun _ => 0))))]) (w1 := logW q3 p1 p2 p3 p4 z1 z2) hP hD [3] [0, 1, 2] rfl rfl (by decide) (by decide) hk1 hFc hP1 hD1
  have hK := hK.app hK1
  have ek : k1 = z2 := K_uniq hK (i := 0) (j := 2) (ty := .long) rfl rfl rfl
  subst ek
  have hK := hK.sub (tys' := [(k1, .long), (z1, .int)]) [0, 1] rfl
  generalize H1 = H at hP hS ⊢
  have hP : va_P D vwCl [(h0, .inr (1, [.ref q1, .ref q2, .null, .int (bI false), .int (bI false), .int (nI 0), .int (nI 0), .int (nI 0), .long 0, .int (nI 0)])), (q1, .inl (k1, 32, .inr (.inl (fun _ => 0)))), (q2, .inl (k1, 32, .inr (.inl (fun _ => 0)))), (q3, .inr (0, [.ref p1, .ref p2, .ref p3, .ref p4, .int (nI 0), .int (nI 0), .int (bI false), .int (bI false)])), (p1, .inl (z1, 20, .inl (fun _ => nI 0))), (p2, .inl (z1, 20, .inl (fun _ => nI 0))), (p3, .inl (z1, 20, .inl (fun _ => nI 0))), (p4, .inl (k1, 40, .inr (.inl (fun _ => 0))))] H := hP
  have hD : va_D A [(h0, .inr (1, [.ref q1, .ref q2, .null, .int (bI false), .int (bI false), .int (nI 0), .int (nI 0), .int (nI 0), .long 0, .int (nI 0)])), (q1, .inl (k1, 32, .inr (.inl (fun _ => 0)))), (q2, .inl (k1, 32, .inr (.inl (fun _ => 0)))), (q3, .inr (0, [.ref p1, .ref p2, .ref p3, .ref p4, .int (nI 0), .int (nI 0), .int (bI false), .int (bI false)])), (p1, .inl (z1, 20, .inl (fun _ => nI 0))), (p2, .inl (z1, 20, .inl (fun _ => nI 0))), (p3, .inl (z1, 20, .inl (fun _ => nI 0))), (p4, .inl (k1, 40, .inr (.inl (fun _ => 0))))] := hD
  refine va_putF (D := D) (ci := 1) (v := .ref q3) (ty := .object "FencedWords$Log") (C := RX1) (T := TX1) (N := 10) hx hb hts hin tyX1 tyX1_ok nmX1 hown hK hP hD hS 0 rfl rfl 2 (by decide) (hts (.fieldLink RX1 19 "FencedWords" "log" "LFencedWords$Log;") (List.mem_of_getElem? (i := 10) rfl)) (fun _ h9 => h9) rfl hini rfl (by decide +kernel) rfl rfl (Nat.le_of_ble_eq_true rfl) dX1_init_28 (fun H locs hP hD hS => ?_)
  have hP : va_P D vwCl [(h0, .inr (1, [.ref q1, .ref q2, .ref q3, .int (bI false), .int (bI false), .int (nI 0), .int (nI 0), .int (nI 0), .long 0, .int (nI 0)])), (q1, .inl (k1, 32, .inr (.inl (fun _ => 0)))), (q2, .inl (k1, 32, .inr (.inl (fun _ => 0)))), (q3, .inr (0, [.ref p1, .ref p2, .ref p3, .ref p4, .int (nI 0), .int (nI 0), .int (bI false), .int (bI false)])), (p1, .inl (z1, 20, .inl (fun _ => nI 0))), (p2, .inl (z1, 20, .inl (fun _ => nI 0))), (p3, .inl (z1, 20, .inl (fun _ => nI 0))), (p4, .inl (k1, 40, .inr (.inl (fun _ => 0))))] H := hP
  have hD : va_D A [(h0, .inr (1, [.ref q1, .ref q2, .ref q3, .int (bI false), .int (bI false), .int (nI 0), .int (nI 0), .int (nI 0), .long 0, .int (nI 0)])), (q1, .inl (k1, 32, .inr (.inl (fun _ => 0)))), (q2, .inl (k1, 32, .inr (.inl (fun _ => 0)))), (q3, .inr (0, [.ref p1, .ref p2, .ref p3, .ref p4, .int (nI 0), .int (nI 0), .int (bI false), .int (bI false)])), (p1, .inl (z1, 20, .inl (fun _ => nI 0))), (p2, .inl (z1, 20, .inl (fun _ => nI 0))), (p3, .inl (z1, 20, .inl (fun _ => nI 0))), (p4, .inl (k1, 40, .inr (.inl (fun _ => 0))))] := hD
  refine lv_aload_n hx hb dX1_init_31 rfl (lv_at hl 0 rfl) ?_
  refine lv_iconst (v := nI 1) hx hb dX1_init_32 (by decide) ?_
  refine va_put (D := D) (ci := 1) (v := .int (nI 1)) (ty := .boolean) (C := RX1) (T := TX1) (N := 10) hx hb hts hin tyX1 tyX1_ok nmX1 hown hK hP hD hS 0 rfl rfl 3 (by decide) (hts (.fieldLink RX1 23 "FencedWords" "powerOn" "Z") (List.mem_of_getElem? (i := 11) rfl)) (fun _ h9 => h9) rfl (by decide +kernel) (bI_nar true) (bI_fit true) (Nat.le_of_ble_eq_true rfl) dX1_init_33 (fun H locs hP hD hS => ?_)
  have hP : va_P D vwCl [(h0, .inr (1, [.ref q1, .ref q2, .ref q3, .int (nI 1), .int (bI false), .int (nI 0), .int (nI 0), .int (nI 0), .long 0, .int (nI 0)])), (q1, .inl (k1, 32, .inr (.inl (fun _ => 0)))), (q2, .inl (k1, 32, .inr (.inl (fun _ => 0)))), (q3, .inr (0, [.ref p1, .ref p2, .ref p3, .ref p4, .int (nI 0), .int (nI 0), .int (bI false), .int (bI false)])), (p1, .inl (z1, 20, .inl (fun _ => nI 0))), (p2, .inl (z1, 20, .inl (fun _ => nI 0))), (p3, .inl (z1, 20, .inl (fun _ => nI 0))), (p4, .inl (k1, 40, .inr (.inl (fun _ => 0))))] H := hP
  have hD : va_D A [(h0, .inr (1, [.ref q1, .ref q2, .ref q3, .int (nI 1), .int (bI false), .int (nI 0), .int (nI 0), .int (nI 0), .long 0, .int (nI 0)])), (q1, .inl (k1, 32, .inr (.inl (fun _ => 0)))), (q2, .inl (k1, 32, .inr (.inl (fun _ => 0)))), (q3, .inr (0, [.ref p1, .ref p2, .ref p3, .ref p4, .int (nI 0), .int (nI 0), .int (bI false), .int (bI false)])), (p1, .inl (z1, 20, .inl (fun _ => nI 0))), (p2, .inl (z1, 20, .inl (fun _ => nI 0))), (p3, .inl (z1, 20, .inl (fun _ => nI 0))), (p4, .inl (k1, 40, .inr (.inl (fun _ => 0))))] := hD
  have hK := hK.sub (tys' := [(z1, .int), (k1, .long)]) [1, 0] rfl
  have hP : va_P D vwCl (wC (fun k => match k with | 0 => h0 | 1 => q1 | 2 => q2 | 3 => q3 | 4 => p1 | 5 => p2 | 6 => p3 | _ => p4) (fun k => match k with | 0 => z1 | _ => k1) cs0 []) H := hP
  have hD : va_D A (wC (fun k => match k with | 0 => h0 | 1 => q1 | 2 => q2 | 3 => q3 | 4 => p1 | 5 => p2 | 6 => p3 | _ => p4) (fun k => match k with | 0 => z1 | _ => k1) cs0 []) := hD
  refine W.widen (k := 7) (n := 172) (by omega) (by omega) ?_
  exact W.vret hx hb hr (fun t ht hW => ⟨⟨(), rfl, trivial, (fun k => match k with | 0 => h0 | 1 => q1 | 2 => q2 | 3 => q3 | 4 => p1 | 5 => p2 | 6 => p3 | _ => p4), (fun k => match k with | 0 => z1 | _ => k1), rfl, by rw [ht]; exact hP, va_K.moved hW.alike hK, hD⟩, hS.F ht⟩) hS.2.2 dX1_init_36 hlocks
