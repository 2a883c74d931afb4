set_option maxHeartbeats 1000000 in
set_option maxRecDepth 100000 in
theorem k_Log (l : Launch) (D : va_G) (h0 sz : Nat) : Met l yX0_init wsX0_init ({ frames := 1, cells := 4, slots := 100, locals := 12 }) (va_Pc [.ref h0] (fun U => U.heap.size = sz ∧ va_P D vwCl [(h0, .inr (0, [.null, .null, .null, .null, .int (nI 0), .int (nI 0), .int (bI false), .int (bI false)]))] U.heap ∧ va_K D vwCl [] U ∧ va_D (fun _ => True) [(h0, .inr (0, [.null, .null, .null, .null, .int (nI 0), .int (nI 0), .int (bI false), .int (bI false)]))])) (va_Qv (fun _ : Unit => True) (fun _ t => ∃ (q1 q2 q3 q4 : Nat) (cI cL : ClassId), va_P D vwCl (logW h0 q1 q2 q3 q4 cI cL) t.heap ∧ va_K D vwCl [(cI, .int), (cL, .long)] t ∧ va_D (va_A [(h0, .inr (0, [.null, .null, .null, .null, .int (nI 0), .int (nI 0), .int (bI false), .int (bI false)]))] sz) (logW h0 q1 q2 q3 q4 cI cL)) (va_A [(h0, .inr (0, [.null, .null, .null, .null, .int (nI 0), .int (nI 0), .int (bI false), .int (bI false)]))] sz)) 4 100 (va_A [(h0, .inr (0, [.null, .null, .null, .null, .int (nI 0), .int (nI 0), .int (bI false), .int (bI false)]))] sz) := by
  refine Met.ofW (cc := cX0_init) (maxL := 1) (ret := none) (by decide) rfl ?_
  intro p e s m args below meth c s₁ B hml hv
  obtain ⟨rfl, hsz, hP, hK, hD0⟩ := hv
  have hx := B.exec
  have hb := B.bytes
  have hr := B.returns
  have hts := atoms_spec (ws := wsX0_init) B.pre
  have hown : s.vm.findClass RX0 = some m.cls := findClass_of_methodNamed B.named
  have hlocks := B.notSynchronized
  have hini : meth.name = "<init>" := (name_of_methodNamed B.named B.method).1
  subst hsz
  have hD := hD0.self (sz := s.heap.size)
  generalize hAe : va_A [(h0, .inr (0, [.null, .null, .null, .null, .int (nI 0), .int (nI 0), .int (bI false), .int (bI false)]))] s.heap.size = A at hD ⊢
  have hA : ∀ q : Nat, s.heap.size ≤ q → A q := fun q h => by rw [← hAe]; exact Or.inr h
  have hS : va_S A s.heap s.heap [] := va_S.rf
  have hl := lv_entry ([.ref h0]) (n := 1) (Nat.le_of_ble_eq_true rfl)
  rw [lg_entry_eq]
  generalize (lg_sl ([.ref h0]) ++ List.replicate (1 - (lg_sl ([.ref h0])).length) Slot.unset).toArray = ls at hl ⊢
  have hl : lv_has ls 1 [(0, .ref h0)] := hl
  have hin : ∀ w ∈ u_ws RX0 TX0 8, w ∈ wsX0_init := fun w h => List.mem_cons_of_mem _ (List.mem_append_right _ (h))
  refine lv_aload_n hx hb dX0_init_0 rfl (lv_at hl 0 rfl) ?_
  refine W.objInit hx hb hown (hts (.methodLink RX0 3 objectInit) (List.mem_of_getElem? (i := 1) rfl)) (hts (.instanceMethod objectInit) (List.mem_of_getElem? (i := 2) rfl)) (hts (.code objectInit ⟨#[0xb1]⟩ 1 none) (List.mem_of_getElem? (i := 3) rfl)) rfl (by rw [hml]; exact hl.1) rfl dX0_init_1 (Nat.le_of_ble_eq_true rfl) (Nat.le_of_ble_eq_true rfl) ?_
  refine W.eq (g2 := F0 m 4 ls []) rfl ?_
  refine lv_aload_n hx hb dX0_init_4 rfl (lv_at hl 0 rfl) ?_
  refine lv_bipush (v := nI 20) hx hb dX0_init_5 (by decide) ?_
  refine va_newa (atype := .int) (ty := .int) (a0 := (20, .inl (fun _ => nI 0))) (N' := 20) hx hb (hts (.arrayClass .int) (List.mem_of_getElem? (i := 4) rfl)) rfl hK hP hD hS hA (ac_int 20) (nI_pos (by decide)) (nI_clamp (by decide)) (by rw [cb_int]; omega) (Nat.le_of_ble_eq_true rfl) (Nat.le_of_ble_eq_true rfl) dX0_init_7 (fun q1 k1 H hK hP hD hS => ?_)
  have hK : va_K D vwCl [(k1, .int)] s := hK
  have hP : va_P D vwCl [(h0, .inr (0, [.null, .null, .null, .null, .int (nI 0), .int (nI 0), .int (bI false), .int (bI false)])), (q1, .inl (k1, 20, .inl (fun _ => nI 0)))] H := hP
  have hD : va_D A [(h0, .inr (0, [.null, .null, .null, .null, .int (nI 0), .int (nI 0), .int (bI false), .int (bI false)])), (q1, .inl (k1, 20, .inl (fun _ => nI 0)))] := hD
  refine va_putF (D := D) (ci := 0) (v := .ref q1) (ty := .array .int) (C := RX0) (T := TX0) (N := 8) hx hb hts hin tyX0 tyX0_ok nmX0 hown hK hP hD hS 0 rfl rfl 0 (by decide) (hts (.fieldLink RX0 9 "FencedWords$Log" "firsts" "[I") (List.mem_of_getElem? (i := 5) rfl)) (fun _ h9 => h9) rfl hini rfl (by decide +kernel) rfl rfl (Nat.le_of_ble_eq_true rfl) dX0_init_9 (fun H locs hP hD hS => ?_)
  have hP : va_P D vwCl [(h0, .inr (0, [.ref q1, .null, .null, .null, .int (nI 0), .int (nI 0), .int (bI false), .int (bI false)])), (q1, .inl (k1, 20, .inl (fun _ => nI 0)))] H := hP
  have hD : va_D A [(h0, .inr (0, [.ref q1, .null, .null, .null, .int (nI 0), .int (nI 0), .int (bI false), .int (bI false)])), (q1, .inl (k1, 20, .inl (fun _ => nI 0)))] := hD
  refine lv_aload_n hx hb dX0_init_12 rfl (lv_at hl 0 rfl) ?_
  refine lv_bipush (v := nI 20) hx hb dX0_init_13 (by decide) ?_
  refine va_newa (atype := .int) (ty := .int) (a0 := (20, .inl (fun _ => nI 0))) (N' := 20) hx hb (hts (.arrayClass .int) (List.mem_of_getElem? (i := 4) rfl)) rfl hK hP hD hS hA (ac_int 20) (nI_pos (by decide)) (nI_clamp (by decide)) (by rw [cb_int]; omega) (Nat.le_of_ble_eq_true rfl) (Nat.le_of_ble_eq_true rfl) dX0_init_15 (fun q2 k2 H hK hP hD hS => ?_)
  have ek : k1 = k2 := K_uniq hK (i := 0) (j := 1) (ty := .int) rfl rfl rfl
  subst ek
  have hK := hK.sub (tys' := [(k1, .int)]) [0] rfl
  have hP : va_P D vwCl [(h0, .inr (0, [.ref q1, .null, .null, .null, .int (nI 0), .int (nI 0), .int (bI false), .int (bI false)])), (q1, .inl (k1, 20, .inl (fun _ => nI 0))), (q2, .inl (k1, 20, .inl (fun _ => nI 0)))] H := hP
  have hD : va_D A [(h0, .inr (0, [.ref q1, .null, .null, .null, .int (nI 0), .int (nI 0), .int (bI false), .int (bI false)])), (q1, .inl (k1, 20, .inl (fun _ => nI 0))), (q2, .inl (k1, 20, .inl (fun _ => nI 0)))] := hD
  refine va_putF (D := D) (ci := 0) (v := .ref q2) (ty := .array .int) (C := RX0) (T := TX0) (N := 8) hx hb hts hin tyX0 tyX0_ok nmX0 hown hK hP hD hS 0 rfl rfl 1 (by decide) (hts (.fieldLink RX0 15 "FencedWords$Log" "counts" "[I") (List.mem_of_getElem? (i := 6) rfl)) (fun _ h9 => h9) rfl hini rfl (by decide +kernel) rfl rfl (Nat.le_of_ble_eq_true rfl) dX0_init_17 (fun H locs hP hD hS => ?_)
  have hP : va_P D vwCl [(h0, .inr (0, [.ref q1, .ref q2, .null, .null, .int (nI 0), .int (nI 0), .int (bI false), .int (bI false)])), (q1, .inl (k1, 20, .inl (fun _ => nI 0))), (q2, .inl (k1, 20, .inl (fun _ => nI 0)))] H := hP
  have hD : va_D A [(h0, .inr (0, [.ref q1, .ref q2, .null, .null, .int (nI 0), .int (nI 0), .int (bI false), .int (bI false)])), (q1, .inl (k1, 20, .inl (fun _ => nI 0))), (q2, .inl (k1, 20, .inl (fun _ => nI 0)))] := hD
  refine lv_aload_n hx hb dX0_init_20 rfl (lv_at hl 0 rfl) ?_
  refine lv_bipush (v := nI 20) hx hb dX0_init_21 (by decide) ?_
  refine va_newa (atype := .int) (ty := .int) (a0 := (20, .inl (fun _ => nI 0))) (N' := 20) hx hb (hts (.arrayClass .int) (List.mem_of_getElem? (i := 4) rfl)) rfl hK hP hD hS hA (ac_int 20) (nI_pos (by decide)) (nI_clamp (by decide)) (by rw [cb_int]; omega) (Nat.le_of_ble_eq_true rfl) (Nat.le_of_ble_eq_true rfl) dX0_init_23 (fun q3 k3 H hK hP hD hS => ?_)
  have ek : k1 = k3 := K_uniq hK (i := 0) (j := 1) (ty := .int) rfl rfl rfl
  subst ek
  have hK := hK.sub (tys' := [(k1, .int)]) [0] rfl
  have hP : va_P D vwCl [(h0, .inr (0, [.ref q1, .ref q2, .null, .null, .int (nI 0), .int (nI 0), .int (bI false), .int (bI false)])), (q1, .inl (k1, 20, .inl (fun _ => nI 0))), (q2, .inl (k1, 20, .inl (fun _ => nI 0))), (q3, .inl (k1, 20, .inl (fun _ => nI 0)))] H := hP
  have hD : va_D A [(h0, .inr (0, [.ref q1, .ref q2, .null, .null, .int (nI 0), .int (nI 0), .int (bI false), .int (bI false)])), (q1, .inl (k1, 20, .inl (fun _ => nI 0))), (q2, .inl (k1, 20, .inl (fun _ => nI 0))), (q3, .inl (k1, 20, .inl (fun _ => nI 0)))] := hD
  refine va_putF (D := D) (ci := 0) (v := .ref q3) (ty := .array .int) (C := RX0) (T := TX0) (N := 8) hx hb hts hin tyX0 tyX0_ok nmX0 hown hK hP hD hS 0 rfl rfl 2 (by decide) (hts (.fieldLink RX0 18 "FencedWords$Log" "startCells" "[I") (List.mem_of_getElem? (i := 7) rfl)) (fun _ h9 => h9) rfl hini rfl (by decide +kernel) rfl rfl (Nat.le_of_ble_eq_true rfl) dX0_init_25 (fun H locs hP hD hS => ?_)
  have hP : va_P D vwCl [(h0, .inr (0, [.ref q1, .ref q2, .ref q3, .null, .int (nI 0), .int (nI 0), .int (bI false), .int (bI false)])), (q1, .inl (k1, 20, .inl (fun _ => nI 0))), (q2, .inl (k1, 20, .inl (fun _ => nI 0))), (q3, .inl (k1, 20, .inl (fun _ => nI 0)))] H := hP
  have hD : va_D A [(h0, .inr (0, [.ref q1, .ref q2, .ref q3, .null, .int (nI 0), .int (nI 0), .int (bI false), .int (bI false)])), (q1, .inl (k1, 20, .inl (fun _ => nI 0))), (q2, .inl (k1, 20, .inl (fun _ => nI 0))), (q3, .inl (k1, 20, .inl (fun _ => nI 0)))] := hD
  refine lv_aload_n hx hb dX0_init_28 rfl (lv_at hl 0 rfl) ?_
  refine lv_bipush (v := nI 40) hx hb dX0_init_29 (by decide) ?_
  refine va_newa (atype := .long) (ty := .long) (a0 := (40, .inr (.inl (fun _ => 0)))) (N' := 40) hx hb (hts (.arrayClass .long) (List.mem_of_getElem? (i := 8) rfl)) rfl hK hP hD hS hA (ac_long 40) (nI_pos (by decide)) (nI_clamp (by decide)) (by rw [cb_long]; omega) (Nat.le_of_ble_eq_true rfl) (Nat.le_of_ble_eq_true rfl) dX0_init_31 (fun q4 k4 H hK hP hD hS => ?_)
  have hK : va_K D vwCl [(k1, .int), (k4, .long)] s := hK
  have hP : va_P D vwCl [(h0, .inr (0, [.ref q1, .ref q2, .ref q3, .null, .int (nI 0), .int (nI 0), .int (bI false), .int (bI false)])), (q1, .inl (k1, 20, .inl (fun _ => nI 0))), (q2, .inl (k1, 20, .inl (fun _ => nI 0))), (q3, .inl (k1, 20, .inl (fun _ => nI 0))), (q4, .inl (k4, 40, .inr (.inl (fun _ => 0))))] H := hP
  have hD : va_D A [(h0, .inr (0, [.ref q1, .ref q2, .ref q3, .null, .int (nI 0), .int (nI 0), .int (bI false), .int (bI false)])), (q1, .inl (k1, 20, .inl (fun _ => nI 0))), (q2, .inl (k1, 20, .inl (fun _ => nI 0))), (q3, .inl (k1, 20, .inl (fun _ => nI 0))), (q4, .inl (k4, 40, .inr (.inl (fun _ => 0))))] := hD
  refine va_putF (D := D) (ci := 0) (v := .ref q4) (ty := .array .long) (C := RX0) (T := TX0) (N := 8) hx hb hts hin tyX0 tyX0_ok nmX0 hown hK hP hD hS 0 rfl rfl 3 (by decide) (hts (.fieldLink RX0 21 "FencedWords$Log" "cells" "[J") (List.mem_of_getElem? (i := 9) rfl)) (fun _ h9 => h9) rfl hini rfl (by decide +kernel) rfl rfl (Nat.le_of_ble_eq_true rfl) dX0_init_33 (fun H locs hP hD hS => ?_)
  have hP : va_P D vwCl [(h0, .inr (0, [.ref q1, .ref q2, .ref q3, .ref q4, .int (nI 0), .int (nI 0), .int (bI false), .int (bI false)])), (q1, .inl (k1, 20, .inl (fun _ => nI 0))), (q2, .inl (k1, 20, .inl (fun _ => nI 0))), (q3, .inl (k1, 20, .inl (fun _ => nI 0))), (q4, .inl (k4, 40, .inr (.inl (fun _ => 0))))] H := hP
  have hD : va_D A [(h0, .inr (0, [.ref q1, .ref q2, .ref q3, .ref q4, .int (nI 0), .int (nI 0), .int (bI false), .int (bI false)])), (q1, .inl (k1, 20, .inl (fun _ => nI 0))), (q2, .inl (k1, 20, .inl (fun _ => nI 0))), (q3, .inl (k1, 20, .inl (fun _ => nI 0))), (q4, .inl (k4, 40, .inr (.inl (fun _ => 0))))] := hD
  refine W.widen (k := 4) (n := 100) (by omega) (by omega) ?_
  exact W.vret hx hb hr (fun t ht hW => ⟨⟨(), rfl, trivial, q1, q2, q3, q4, k1, k4, by rw [ht]; exact hP, va_K.moved hW.alike hK, hD⟩, hS.F ht⟩) hS.2.2 dX0_init_36 hlocks
