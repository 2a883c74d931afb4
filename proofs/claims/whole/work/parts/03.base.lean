/-! ===== my own words: a boolean as an int, functions changed at a place, contracts over a world ===== -/
def bI (b : Bool) : Int32 := if b then 1 else 0
theorem bI_nar (b : Bool) : narrow .boolean (.int (bI b)) = .int (bI b) := by cases b <;> rfl
theorem bI_fit (b : Bool) : fits .boolean (.int (bI b)) = true := by cases b <;> rfl
theorem bI_eq0 (b : Bool) : bI b = 0 ↔ b = false := by cases b <;> simp [bI]
theorem bI_t : (1 : Int32) = bI true := rfl
theorem bI_f : (0 : Int32) = bI false := rfl
def upN (f : Nat → Nat) (k v : Nat) : Nat → Nat := fun j => if j = k then v else f j
def upB (f : Nat → Bool) (k : Nat) (v : Bool) : Nat → Bool := fun j => if j = k then v else f j
theorem upN_s (f : Nat → Nat) (k v : Nat) : upN f k v k = v := by simp [upN]
theorem upN_n (f : Nat → Nat) {k j : Nat} (v : Nat) (h : j ≠ k) : upN f k v j = f j := by simp [upN, h]
theorem upB_s (f : Nat → Bool) (k : Nat) (v : Bool) : upB f k v k = v := by simp [upB]
theorem upB_n (f : Nat → Bool) {k j : Nat} (v : Bool) (h : j ≠ k) : upB f k v j = f j := by simp [upB, h]
theorem upd_nI (f : Nat → Nat) {k : Nat} (v : Nat) (h : k < 2 ^ 31) : upd (fun j => nI (f j)) (nI k).toNatClampNeg (nI v) = fun j => nI (upN f k v j) := by
  rw [nI_clamp h]
  funext j
  by_cases hj : j = k
  · subst hj; rw [pk_us, upN_s]
  · rw [pk_un hj, upN_n f v hj]
theorem upd_bI (f : Nat → Bool) {k : Nat} (v : Bool) (h : k < 2 ^ 31) : upd (fun j => bI (f j)) (nI k).toNatClampNeg (bI v) = fun j => bI (upB f k v j) := by
  rw [nI_clamp h]
  funext j
  by_cases hj : j = k
  · subst hj; rw [pk_us, upB_s]
  · rw [pk_un hj, upB_n f v hj]
/-- the words on nest mates, which travel with the state -/
def nwA (U : State) : Prop := va_Nw (.fieldLinkNest "FencedWords" 82 "FencedWords$Log" "size" "I" "FencedWords") U ∧ va_Nw (.fieldLinkNest "FencedWords" 85 "FencedWords$Log" "cellsTaken" "I" "FencedWords") U ∧ va_Nw (.fieldLinkNest "FencedWords" 117 "FencedWords$Log" "counts" "[I" "FencedWords") U ∧ va_Nw (.fieldLinkNest "FencedWords" 121 "FencedWords$Log" "firsts" "[I" "FencedWords") U ∧ va_Nw (.methodLinkNest "FencedWords$Log" 32 yX1_lineOf "FencedWords") U
theorem nwA.blind {U : State} {g : JFrame} {mk : MethodId} {a : Array Value} (h : nwA U) : nwA (U.calling g mk a) :=
  ⟨va_Nw.same rfl (u := U) (U := U.calling g mk a) rfl h.1, va_Nw.same rfl (u := U) (U := U.calling g mk a) rfl h.2.1, va_Nw.same rfl (u := U) (U := U.calling g mk a) rfl h.2.2.1, va_Nw.same rfl (u := U) (U := U.calling g mk a) rfl h.2.2.2.1, va_Nw.same rfl (u := U) (U := U.calling g mk a) rfl h.2.2.2.2⟩
theorem nwA.moved {s U : State} (hW : s.WarmedH U.vm) (h : nwA s) : nwA U :=
  ⟨va_Nw.warmF hW h.1, va_Nw.warmF hW h.2.1, va_Nw.warmF hW h.2.2.1, va_Nw.warmF hW h.2.2.2.1, va_Nw.warmM hW h.2.2.2.2⟩
/-- a method's start and end: the world w before it, w' behind it, the answer r -/
def preG (D : va_G) (tys : List (ClassId × FieldType)) (w : va_W) (sz : Nat) (U : State) : Prop := U.heap.size = sz ∧ va_P D vwCl w U.heap ∧ va_K D vwCl tys U ∧ va_D (fun _ => True) w ∧ nwA U
def postG (D : va_G) (tys : List (ClassId × FieldType)) (A : Nat → Prop) (w : va_W) (t : State) : Prop := va_P D vwCl w t.heap ∧ va_K D vwCl tys t ∧ va_D A w
theorem preG.blind {D : va_G} {tys : List (ClassId × FieldType)} {w : va_W} {sz : Nat} {As : List Value} : FrameBlind (va_Pc As (preG D tys w sz)) := fun a U g mk q => by
  obtain ⟨q0, q1, qP, qK, qD, qN⟩ := q
  exact ⟨q0, q1, qP, va_K.moved (u := U) (U := U.calling g mk a) (Vm.Alike.refl U.vm) qK, qD, qN.blind⟩
def MGi (l : Launch) (mn : MethodName) (ws : List Cond) (fr lo : Nat) (As : List Value) (tys : List (ClassId × FieldType)) (w : va_W) (r : Int32) (w' : va_W) : Prop :=
  ∀ (D : va_G) (sz : Nat), Met l mn ws ({ frames := fr, cells := 0, slots := 0, locals := lo }) (va_Pc As (preG D tys w sz)) (va_Qi (fun (r' : Int32) (_ : Unit) => r' = r) (fun _ t => postG D tys (va_A w sz) w' t) (va_A w sz)) 0 0 (va_A w sz)
def MGl (l : Launch) (mn : MethodName) (ws : List Cond) (fr lo : Nat) (As : List Value) (tys : List (ClassId × FieldType)) (w : va_W) (r : Int64) (w' : va_W) : Prop :=
  ∀ (D : va_G) (sz : Nat), Met l mn ws ({ frames := fr, cells := 0, slots := 0, locals := lo }) (va_Pc As (preG D tys w sz)) (va_Ql (fun (r' : Int64) (_ : Unit) => r' = r) (fun _ t => postG D tys (va_A w sz) w' t) (va_A w sz)) 0 0 (va_A w sz)
def MGv (l : Launch) (mn : MethodName) (ws : List Cond) (fr lo : Nat) (As : List Value) (tys : List (ClassId × FieldType)) (w : va_W) (w' : va_W) : Prop :=
  ∀ (D : va_G) (sz : Nat), Met l mn ws ({ frames := fr, cells := 0, slots := 0, locals := lo }) (va_Pc As (preG D tys w sz)) (va_Qv (fun (_ : Unit) => True) (fun _ t => postG D tys (va_A w sz) w' t) (va_A w sz)) 0 0 (va_A w sz)
def GQi (below : List Frame) (D : va_G) (tys : List (ClassId × FieldType)) (A : Nat → Prop) (r : Int32) (w' : va_W) (args : Array Value) (s : State) : State → Prop := MQ below (va_Qi (fun (r' : Int32) (_ : Unit) => r' = r) (fun _ t => postG D tys A w' t) A) args s 0 0 A
def GQl (below : List Frame) (D : va_G) (tys : List (ClassId × FieldType)) (A : Nat → Prop) (r : Int64) (w' : va_W) (args : Array Value) (s : State) : State → Prop := MQ below (va_Ql (fun (r' : Int64) (_ : Unit) => r' = r) (fun _ t => postG D tys A w' t) A) args s 0 0 A
def GQv (below : List Frame) (D : va_G) (tys : List (ClassId × FieldType)) (A : Nat → Prop) (w' : va_W) (args : Array Value) (s : State) : State → Prop := MQ below (va_Qv (fun (_ : Unit) => True) (fun _ t => postG D tys A w' t) A) args s 0 0 A
theorem MGi.of {l : Launch} {mn : MethodName} {ws ws' : List Cond} {fr lo : Nat} {As : List Value} {tys : List (ClassId × FieldType)} {w w' : va_W} {r : Int32} {cc : ByteArray} {maxL : Nat} {ty : FieldType} (hy : plainName mn.cls = true) (hw : ws = Cond.code mn cc maxL (some ty) :: ws') (hln : (lg_sl As).length ≤ maxL)
    (body : ∀ (D : va_G) (p : Program) (e : Env) (s : State) (m : MethodId) (below : List Frame) (meth : Method) (c0 : Code) (A : Nat → Prop) (ls : Array Slot), p.tables.exec = Jvm.exec → c0.code = cc → meth.sig.returnType = some ty → c0.maxLocals = maxL → s.vm.findClass mn.cls = some m.cls → meth.locks = false → (∀ w ∈ ws, w.before As.toArray s = true) → va_K D vwCl tys s → va_P D vwCl w s.heap → va_D A w → (∀ q, s.heap.size ≤ q → A q) → nwA s → lv_has ls maxL (lv_args 0 As) → va_S A s.heap s.heap [] →
      W p l e ({ frames := fr, cells := 0, slots := 0, locals := lo }) s m As.toArray below meth c0 s.heap [] 0 0 (GQi below D tys A r w' As.toArray s) (F0 m 0 ls [])) : MGi l mn ws fr lo As tys w r w' := by
  intro D sz
  refine Met.ofW (cc := cc) (maxL := maxL) (ret := some ty) hy hw ?_
  intro p e s m args below meth c s₁ B hml hv
  obtain ⟨rfl, hsz, hP, hK, hD0, hN⟩ := hv
  have hts := atoms_spec (ws := ws) B.pre
  subst hsz
  have hl := lv_entry As (n := maxL) hln
  rw [lg_entry_eq]
  exact body D p e s m below meth c (va_A w s.heap.size) _ B.exec B.bytes B.returns hml (findClass_of_methodNamed B.named) B.notSynchronized hts hK hP (hD0.self) (fun q h => Or.inr h) hN hl va_S.rf
theorem MGl.of {l : Launch} {mn : MethodName} {ws ws' : List Cond} {fr lo : Nat} {As : List Value} {tys : List (ClassId × FieldType)} {w w' : va_W} {r : Int64} {cc : ByteArray} {maxL : Nat} {ty : FieldType} (hy : plainName mn.cls = true) (hw : ws = Cond.code mn cc maxL (some ty) :: ws') (hln : (lg_sl As).length ≤ maxL)
    (body : ∀ (D : va_G) (p : Program) (e : Env) (s : State) (m : MethodId) (below : List Frame) (meth : Method) (c0 : Code) (A : Nat → Prop) (ls : Array Slot), p.tables.exec = Jvm.exec → c0.code = cc → meth.sig.returnType = some ty → c0.maxLocals = maxL → s.vm.findClass mn.cls = some m.cls → meth.locks = false → (∀ w ∈ ws, w.before As.toArray s = true) → va_K D vwCl tys s → va_P D vwCl w s.heap → va_D A w → (∀ q, s.heap.size ≤ q → A q) → nwA s → lv_has ls maxL (lv_args 0 As) → va_S A s.heap s.heap [] →
      W p l e ({ frames := fr, cells := 0, slots := 0, locals := lo }) s m As.toArray below meth c0 s.heap [] 0 0 (GQl below D tys A r w' As.toArray s) (F0 m 0 ls [])) : MGl l mn ws fr lo As tys w r w' := by
  intro D sz
  refine Met.ofW (cc := cc) (maxL := maxL) (ret := some ty) hy hw ?_
  intro p e s m args below meth c s₁ B hml hv
  obtain ⟨rfl, hsz, hP, hK, hD0, hN⟩ := hv
  have hts := atoms_spec (ws := ws) B.pre
  subst hsz
  have hl := lv_entry As (n := maxL) hln
  rw [lg_entry_eq]
  exact body D p e s m below meth c (va_A w s.heap.size) _ B.exec B.bytes B.returns hml (findClass_of_methodNamed B.named) B.notSynchronized hts hK hP (hD0.self) (fun q h => Or.inr h) hN hl va_S.rf
theorem MGv.of {l : Launch} {mn : MethodName} {ws ws' : List Cond} {fr lo : Nat} {As : List Value} {tys : List (ClassId × FieldType)} {w w' : va_W} {cc : ByteArray} {maxL : Nat} (hy : plainName mn.cls = true) (hw : ws = Cond.code mn cc maxL none :: ws') (hln : (lg_sl As).length ≤ maxL)
    (body : ∀ (D : va_G) (p : Program) (e : Env) (s : State) (m : MethodId) (below : List Frame) (meth : Method) (c0 : Code) (A : Nat → Prop) (ls : Array Slot), p.tables.exec = Jvm.exec → c0.code = cc → meth.sig.returnType = none → c0.maxLocals = maxL → s.vm.findClass mn.cls = some m.cls → meth.locks = false → (∀ w ∈ ws, w.before As.toArray s = true) → va_K D vwCl tys s → va_P D vwCl w s.heap → va_D A w → (∀ q, s.heap.size ≤ q → A q) → nwA s → lv_has ls maxL (lv_args 0 As) → va_S A s.heap s.heap [] →
      W p l e ({ frames := fr, cells := 0, slots := 0, locals := lo }) s m As.toArray below meth c0 s.heap [] 0 0 (GQv below D tys A w' As.toArray s) (F0 m 0 ls [])) : MGv l mn ws fr lo As tys w w' := by
  intro D sz
  refine Met.ofW (cc := cc) (maxL := maxL) (ret := none) hy hw ?_
  intro p e s m args below meth c s₁ B hml hv
  obtain ⟨rfl, hsz, hP, hK, hD0, hN⟩ := hv
  have hts := atoms_spec (ws := ws) B.pre
  subst hsz
  have hl := lv_entry As (n := maxL) hln
  rw [lg_entry_eq]
  exact body D p e s m below meth c (va_A w s.heap.size) _ B.exec B.bytes B.returns hml (findClass_of_methodNamed B.named) B.notSynchronized hts hK hP (hD0.self) (fun q h => Or.inr h) hN hl va_S.rf
section GG
variable {p : Program} {l : Launch} {e : Env} {R : Room} {s : State} {m : MethodId} {args : Array Value} {below : List Frame} {meth : Method} {c0 : Code} {H : Heap} {locs : List Loc} {cells slots : Nat} {Q : State → Prop}
variable {cc : ByteArray} {pc : Nat} {ls : Array Slot} {rest st0 : List Value} {D : va_G} {A : Nat → Prop} {tys : List (ClassId × FieldType)} {w w' : va_W}
theorem retGi {v r : Int32} (hx : p.tables.exec = Jvm.exec) (hb : c0.code = cc) (hr : meth.sig.returnType = some .int) (hlocks : meth.locks = false) (hK : va_K D vwCl tys s) (hP : va_P D vwCl w H) (hD : va_D A w) (hS : va_S A s.heap H locs) (d : decode cc pc = .ok (.ireturn, 1)) (hv : v = r) (hw : w = w') : W p l e R s m args below meth c0 H locs 0 0 (GQi below D tys A r w' args s) (F0 m pc ls [.int v]) := by
  subst hv; subst hw
  exact W.iret hx hb hr (fun t ht hW => ⟨⟨v, (), rfl, rfl, by rw [ht]; exact hP, va_K.moved hW.alike hK, hD⟩, hS.F ht⟩) hS.2.2 d hlocks
theorem retGz {v : Int32} {r : Bool} (hx : p.tables.exec = Jvm.exec) (hb : c0.code = cc) (hr : meth.sig.returnType = some .boolean) (hlocks : meth.locks = false) (hK : va_K D vwCl tys s) (hP : va_P D vwCl w H) (hD : va_D A w) (hS : va_S A s.heap H locs) (d : decode cc pc = .ok (.ireturn, 1)) (hv : v = bI r) (hw : w = w') : W p l e R s m args below meth c0 H locs 0 0 (GQi below D tys A (bI r) w' args s) (F0 m pc ls [.int v]) := by
  subst hv; subst hw
  exact W.zret hx hb hr (bI_nar r) (fun t ht hW => ⟨⟨bI r, (), rfl, rfl, by rw [ht]; exact hP, va_K.moved hW.alike hK, hD⟩, hS.F ht⟩) hS.2.2 d hlocks
theorem retGl {v r : Int64} (hx : p.tables.exec = Jvm.exec) (hb : c0.code = cc) (hr : meth.sig.returnType = some .long) (hlocks : meth.locks = false) (hK : va_K D vwCl tys s) (hP : va_P D vwCl w H) (hD : va_D A w) (hS : va_S A s.heap H locs) (d : decode cc pc = .ok (.lreturn, 1)) (hv : v = r) (hw : w = w') : W p l e R s m args below meth c0 H locs 0 0 (GQl below D tys A r w' args s) (F0 m pc ls [.long v]) := by
  subst hv; subst hw
  exact W.lret hx hb hr (fun t ht hW => ⟨⟨v, (), rfl, rfl, by rw [ht]; exact hP, va_K.moved hW.alike hK, hD⟩, hS.F ht⟩) hS.2.2 d hlocks
theorem retGv (hx : p.tables.exec = Jvm.exec) (hb : c0.code = cc) (hr : meth.sig.returnType = none) (hlocks : meth.locks = false) (hK : va_K D vwCl tys s) (hP : va_P D vwCl w H) (hD : va_D A w) (hS : va_S A s.heap H locs) (d : decode cc pc = .ok (.return_, 1)) (hw : w = w') : W p l e R s m args below meth c0 H locs 0 0 (GQv below D tys A w' args s) (F0 m pc ls []) := by
  subst hw
  exact W.vret hx hb hr (fun t ht hW => ⟨⟨(), rfl, trivial, by rw [ht]; exact hP, va_K.moved hW.alike hK, hD⟩, hS.F ht⟩) hS.2.2 d hlocks
theorem freeG (hD : va_D A w) (hS : va_S A s.heap H locs) (hA : ∀ q, s.heap.size ≤ q → A q) : ∀ q, va_A w H.size q → A q := fun q h => h.elim (fun ⟨k, e, h⟩ => hD.2 k (q, e) h) (fun h => hA q (Nat.le_trans hS.1 h))
variable {mn : MethodName} {bytes : ByteArray} {maxL nL n index fr lo : Nat} {ret : Option FieldType} {ws : List Cond} {Ts : List Cond} {own C host : String} {b : Nat} {As : List Value}
/-- a call of an own method: the same world before it; behind it the world of its contract -/
theorem callVi {r : Int32} (S : CallFix p m c0 cc nL s args Ts own) (hM : MGi l mn ws fr lo (.ref b :: As) tys w r w') (cw : CallW R s args own C index mn bytes maxL ret ws ({ frames := fr, cells := 0, slots := 0, locals := lo }) 0 0 n) (hrc : ∃ cellB : Cell, H[b]? = some cellB ∧ cellB.vm.isStatics = false ∧ s.vm.findClass C = some cellB.cls) (hK : va_K D vwCl tys s) (hP : va_P D vwCl w H) (hD : va_D A w) (hS : va_S A s.heap H locs) (hA : ∀ q, s.heap.size ≤ q → A q) (hN : nwA s) (hn : As.length = n) (hsize : ls.size = nL) (hst : st0 = As.reverse ++ .ref b :: rest) (hW : (rest.map fun v => v.category).sum ≤ 8) (d : decode cc pc = .ok (.invokevirtual index, 3)) (hf : cells ≤ R.cells ∧ slots ≤ R.slots)
    (kk : ∀ (H1 : Heap) (locs1 : List Loc), va_P D vwCl w' H1 → va_D A w' → va_S A s.heap H1 locs1 → W p l e R s m args below meth c0 H1 locs1 cells slots Q (F0 m (pc + 3) ls (.int r :: rest))) : W p l e R s m args below meth c0 H locs cells slots Q (F0 m pc ls st0) := by
  have hFc := freeG hD hS hA
  refine va_calli (va_runV (As := As) (rest := rest) S (hM D H.size) cw ⟨preG.blind, hrc, fun U hU hW => ⟨rfl, by rw [hU], by rw [hU]; exact hP, va_K.moved hW.alike hK, hD.weaken (fun _ _ _ _ => trivial), hN.moved hW⟩⟩ rfl hn hsize hst (lv_room hW) d hf) hS (fun q _ h => hFc q h) hFc (fun r' u t H1 locs1 ht hvm hr hB hz hk hS1 => ?_)
  obtain ⟨hP1, hK1, hD1⟩ := hB
  rw [ht] at hP1
  subst hr
  exact kk H1 locs1 hP1 (hD1.weaken (fun k q _ h => hFc q.1 h)) hS1
theorem callVl {r : Int64} (S : CallFix p m c0 cc nL s args Ts own) (hM : MGl l mn ws fr lo (.ref b :: As) tys w r w') (cw : CallW R s args own C index mn bytes maxL ret ws ({ frames := fr, cells := 0, slots := 0, locals := lo }) 0 0 n) (hrc : ∃ cellB : Cell, H[b]? = some cellB ∧ cellB.vm.isStatics = false ∧ s.vm.findClass C = some cellB.cls) (hK : va_K D vwCl tys s) (hP : va_P D vwCl w H) (hD : va_D A w) (hS : va_S A s.heap H locs) (hA : ∀ q, s.heap.size ≤ q → A q) (hN : nwA s) (hn : As.length = n) (hsize : ls.size = nL) (hst : st0 = As.reverse ++ .ref b :: rest) (hW : (rest.map fun v => v.category).sum ≤ 8) (d : decode cc pc = .ok (.invokevirtual index, 3)) (hf : cells ≤ R.cells ∧ slots ≤ R.slots)
    (kk : ∀ (H1 : Heap) (locs1 : List Loc), va_P D vwCl w' H1 → va_D A w' → va_S A s.heap H1 locs1 → W p l e R s m args below meth c0 H1 locs1 cells slots Q (F0 m (pc + 3) ls (.long r :: rest))) : W p l e R s m args below meth c0 H locs cells slots Q (F0 m pc ls st0) := by
  have hFc := freeG hD hS hA
  refine va_calll (va_runV (As := As) (rest := rest) S (hM D H.size) cw ⟨preG.blind, hrc, fun U hU hW => ⟨rfl, by rw [hU], by rw [hU]; exact hP, va_K.moved hW.alike hK, hD.weaken (fun _ _ _ _ => trivial), hN.moved hW⟩⟩ rfl hn hsize hst (lv_room hW) d hf) hS (fun q _ h => hFc q h) hFc (fun r' u t H1 locs1 ht hvm hr hB hz hk hS1 => ?_)
  obtain ⟨hP1, hK1, hD1⟩ := hB
  rw [ht] at hP1
  subst hr
  exact kk H1 locs1 hP1 (hD1.weaken (fun k q _ h => hFc q.1 h)) hS1
theorem callVv (S : CallFix p m c0 cc nL s args Ts own) (hM : MGv l mn ws fr lo (.ref b :: As) tys w w') (cw : CallW R s args own C index mn bytes maxL ret ws ({ frames := fr, cells := 0, slots := 0, locals := lo }) 0 0 n) (hrc : ∃ cellB : Cell, H[b]? = some cellB ∧ cellB.vm.isStatics = false ∧ s.vm.findClass C = some cellB.cls) (hK : va_K D vwCl tys s) (hP : va_P D vwCl w H) (hD : va_D A w) (hS : va_S A s.heap H locs) (hA : ∀ q, s.heap.size ≤ q → A q) (hN : nwA s) (hn : As.length = n) (hsize : ls.size = nL) (hst : st0 = As.reverse ++ .ref b :: rest) (hW : (rest.map fun v => v.category).sum ≤ 8) (d : decode cc pc = .ok (.invokevirtual index, 3)) (hf : cells ≤ R.cells ∧ slots ≤ R.slots)
    (kk : ∀ (H1 : Heap) (locs1 : List Loc), va_P D vwCl w' H1 → va_D A w' → va_S A s.heap H1 locs1 → W p l e R s m args below meth c0 H1 locs1 cells slots Q (F0 m (pc + 3) ls rest)) : W p l e R s m args below meth c0 H locs cells slots Q (F0 m pc ls st0) := by
  have hFc := freeG hD hS hA
  refine va_callv (va_runV (As := As) (rest := rest) S (hM D H.size) cw ⟨preG.blind, hrc, fun U hU hW => ⟨rfl, by rw [hU], by rw [hU]; exact hP, va_K.moved hW.alike hK, hD.weaken (fun _ _ _ _ => trivial), hN.moved hW⟩⟩ rfl hn hsize hst (lv_room hW) d hf) hS (fun q _ h => hFc q h) hFc (fun u t H1 locs1 ht hvm hr hB hz hk hS1 => ?_)
  obtain ⟨hP1, hK1, hD1⟩ := hB
  rw [ht] at hP1
  exact kk H1 locs1 hP1 (hD1.weaken (fun k q _ h => hFc q.1 h)) hS1
theorem callSi {r : Int32} (S : CallFix p m c0 cc nL s args Ts own) (hM : MGi l mn ws fr lo As tys w r w') (cw : CallB R s args own index mn bytes maxL ret ws ({ frames := fr, cells := 0, slots := 0, locals := lo }) 0 0 n ∧ (Cond.static mn).before args s = true) (hK : va_K D vwCl tys s) (hP : va_P D vwCl w H) (hD : va_D A w) (hS : va_S A s.heap H locs) (hA : ∀ q, s.heap.size ≤ q → A q) (hN : nwA s) (hn : As.length = n) (hsize : ls.size = nL) (hst : st0 = As.reverse ++ rest) (hW : (rest.map fun v => v.category).sum ≤ 8) (d : decode cc pc = .ok (.invokestatic index, 3)) (hf : cells ≤ R.cells ∧ slots ≤ R.slots)
    (kk : ∀ (H1 : Heap) (locs1 : List Loc), va_P D vwCl w' H1 → va_D A w' → va_S A s.heap H1 locs1 → W p l e R s m args below meth c0 H1 locs1 cells slots Q (F0 m (pc + 3) ls (.int r :: rest))) : W p l e R s m args below meth c0 H locs cells slots Q (F0 m pc ls st0) := by
  have hFc := freeG hD hS hA
  refine va_calli (va_runS (As := As) (rest := rest) S (hM D H.size) cw ⟨preG.blind, fun U hU hW => ⟨rfl, by rw [hU], by rw [hU]; exact hP, va_K.moved hW.alike hK, hD.weaken (fun _ _ _ _ => trivial), hN.moved hW⟩⟩ rfl hn hsize hst (lv_room hW) d hf) hS (fun q _ h => hFc q h) hFc (fun r' u t H1 locs1 ht hvm hr hB hz hk hS1 => ?_)
  obtain ⟨hP1, hK1, hD1⟩ := hB
  rw [ht] at hP1
  subst hr
  exact kk H1 locs1 hP1 (hD1.weaken (fun k q _ h => hFc q.1 h)) hS1
theorem callNi {r : Int32} (S : CallFix p m c0 cc nL s args Ts own) (hM : MGi l mn ws fr lo As tys w r w') (cw : va_CN R s args own index mn host bytes maxL ret ws ({ frames := fr, cells := 0, slots := 0, locals := lo }) 0 0 n ∧ (Cond.static mn).before args s = true ∧ True) (hK : va_K D vwCl tys s) (hP : va_P D vwCl w H) (hD : va_D A w) (hS : va_S A s.heap H locs) (hA : ∀ q, s.heap.size ≤ q → A q) (hN : nwA s) (hn : As.length = n) (hsize : ls.size = nL) (hst : st0 = As.reverse ++ rest) (hW : (rest.map fun v => v.category).sum ≤ 8) (d : decode cc pc = .ok (.invokestatic index, 3)) (hf : cells ≤ R.cells ∧ slots ≤ R.slots)
    (kk : ∀ (H1 : Heap) (locs1 : List Loc), va_P D vwCl w' H1 → va_D A w' → va_S A s.heap H1 locs1 → W p l e R s m args below meth c0 H1 locs1 cells slots Q (F0 m (pc + 3) ls (.int r :: rest))) : W p l e R s m args below meth c0 H locs cells slots Q (F0 m pc ls st0) := by
  have hFc := freeG hD hS hA
  refine va_calli (va_runSN (As := As) (rest := rest) S (hM D H.size) cw ⟨preG.blind, fun U hU hW => ⟨rfl, by rw [hU], by rw [hU]; exact hP, va_K.moved hW.alike hK, hD.weaken (fun _ _ _ _ => trivial), hN.moved hW⟩⟩ rfl hn hsize hst (lv_room hW) d hf) hS (fun q _ h => hFc q h) hFc (fun r' u t H1 locs1 ht hvm hr hB hz hk hS1 => ?_)
  obtain ⟨hP1, hK1, hD1⟩ := hB
  rw [ht] at hP1
  subst hr
  exact kk H1 locs1 hP1 (hD1.weaken (fun k q _ h => hFc q.1 h)) hS1
/-! rows over numbers: nI of a Nat -/
theorem q_iadd (hx : p.tables.exec = Jvm.exec) (hb : c0.code = cc) {x y : Nat} (d : decode cc pc = .ok (.iadd, 1)) (kk : W p l e R s m args below meth c0 H locs cells slots Q (F0 m (pc + 1) ls (.int (nI (x + y)) :: rest))) : W p l e R s m args below meth c0 H locs cells slots Q (F0 m pc ls (.int (nI y) :: .int (nI x) :: rest)) := lv_iadd hx hb d (by rw [nI_add]; exact kk)
theorem q_imul (hx : p.tables.exec = Jvm.exec) (hb : c0.code = cc) {x y : Nat} (d : decode cc pc = .ok (.imul, 1)) (kk : W p l e R s m args below meth c0 H locs cells slots Q (F0 m (pc + 1) ls (.int (nI (x * y)) :: rest))) : W p l e R s m args below meth c0 H locs cells slots Q (F0 m pc ls (.int (nI y) :: .int (nI x) :: rest)) := lv_imul hx hb d (by rw [pk_mul]; exact kk)
theorem q_isub (hx : p.tables.exec = Jvm.exec) (hb : c0.code = cc) {x y : Nat} (h : y ≤ x) (d : decode cc pc = .ok (.isub, 1)) (kk : W p l e R s m args below meth c0 H locs cells slots Q (F0 m (pc + 1) ls (.int (nI (x - y)) :: rest))) : W p l e R s m args below meth c0 H locs cells slots Q (F0 m pc ls (.int (nI y) :: .int (nI x) :: rest)) := lv_isub hx hb d (by rw [pk_sub h]; exact kk)
theorem q_idiv (hx : p.tables.exec = Jvm.exec) (hb : c0.code = cc) {x y : Nat} (h1 : x < 2 ^ 31) (h2 : 0 < y) (h3 : y < 2 ^ 31) (d : decode cc pc = .ok (.idiv, 1)) (kk : W p l e R s m args below meth c0 H locs cells slots Q (F0 m (pc + 1) ls (.int (nI (x / y)) :: rest))) : W p l e R s m args below meth c0 H locs cells slots Q (F0 m pc ls (.int (nI y) :: .int (nI x) :: rest)) := lv_idiv hx hb d (nI_ne0 h2 h3) (by rw [pk_div h1 h2 h3]; exact kk)
theorem q_icmp_eq (hx : p.tables.exec = Jvm.exec) (hb : c0.code = cc) {x y : Nat} {off : Int} {tgt : Nat} (h1 : x < 2 ^ 31) (h2 : y < 2 ^ 31) (d : decode cc pc = .ok (.if_icmp .eq off, 3)) (ht : (pc : Int) + off = (tgt : Int)) (kt : x = y → W p l e R s m args below meth c0 H locs cells slots Q (F0 m tgt ls rest)) (kf : ¬ x = y → W p l e R s m args below meth c0 H locs cells slots Q (F0 m (pc + 3) ls rest)) : W p l e R s m args below meth c0 H locs cells slots Q (F0 m pc ls (.int (nI y) :: .int (nI x) :: rest)) := lv_icmp_eq hx hb d ht (fun h => kt ((nI_eq h1 h2).mp h)) (fun h => kf (fun q => h ((nI_eq h1 h2).mpr q)))
theorem q_icmp_ne (hx : p.tables.exec = Jvm.exec) (hb : c0.code = cc) {x y : Nat} {off : Int} {tgt : Nat} (h1 : x < 2 ^ 31) (h2 : y < 2 ^ 31) (d : decode cc pc = .ok (.if_icmp .ne off, 3)) (ht : (pc : Int) + off = (tgt : Int)) (kt : ¬ x = y → W p l e R s m args below meth c0 H locs cells slots Q (F0 m tgt ls rest)) (kf : x = y → W p l e R s m args below meth c0 H locs cells slots Q (F0 m (pc + 3) ls rest)) : W p l e R s m args below meth c0 H locs cells slots Q (F0 m pc ls (.int (nI y) :: .int (nI x) :: rest)) := lv_icmp_ne hx hb d ht (fun h => kt (fun q => h ((nI_eq h1 h2).mpr q))) (fun h => kf ((nI_eq h1 h2).mp h))
theorem q_icmp_ge (hx : p.tables.exec = Jvm.exec) (hb : c0.code = cc) {x y : Nat} {off : Int} {tgt : Nat} (h1 : x < 2 ^ 31) (h2 : y < 2 ^ 31) (d : decode cc pc = .ok (.if_icmp .ge off, 3)) (ht : (pc : Int) + off = (tgt : Int)) (kt : y ≤ x → W p l e R s m args below meth c0 H locs cells slots Q (F0 m tgt ls rest)) (kf : x < y → W p l e R s m args below meth c0 H locs cells slots Q (F0 m (pc + 3) ls rest)) : W p l e R s m args below meth c0 H locs cells slots Q (F0 m pc ls (.int (nI y) :: .int (nI x) :: rest)) := lv_icmp_ge hx hb d ht (fun h => kt ((nI_leI h2 h1).mp h)) (fun h => kf (Nat.not_le.mp (fun q => h ((nI_leI h2 h1).mpr q))))
theorem q_icmp_lt (hx : p.tables.exec = Jvm.exec) (hb : c0.code = cc) {x y : Nat} {off : Int} {tgt : Nat} (h1 : x < 2 ^ 31) (h2 : y < 2 ^ 31) (d : decode cc pc = .ok (.if_icmp .lt off, 3)) (ht : (pc : Int) + off = (tgt : Int)) (kt : x < y → W p l e R s m args below meth c0 H locs cells slots Q (F0 m tgt ls rest)) (kf : y ≤ x → W p l e R s m args below meth c0 H locs cells slots Q (F0 m (pc + 3) ls rest)) : W p l e R s m args below meth c0 H locs cells slots Q (F0 m pc ls (.int (nI y) :: .int (nI x) :: rest)) := lv_icmp_lt hx hb d ht (fun h => kt ((nI_ltI h1 h2).mp h)) (fun h => kf (Nat.not_lt.mp (fun q => h ((nI_ltI h1 h2).mpr q))))
theorem q_icmp_gt (hx : p.tables.exec = Jvm.exec) (hb : c0.code = cc) {x y : Nat} {off : Int} {tgt : Nat} (h1 : x < 2 ^ 31) (h2 : y < 2 ^ 31) (d : decode cc pc = .ok (.if_icmp .gt off, 3)) (ht : (pc : Int) + off = (tgt : Int)) (kt : y < x → W p l e R s m args below meth c0 H locs cells slots Q (F0 m tgt ls rest)) (kf : x ≤ y → W p l e R s m args below meth c0 H locs cells slots Q (F0 m (pc + 3) ls rest)) : W p l e R s m args below meth c0 H locs cells slots Q (F0 m pc ls (.int (nI y) :: .int (nI x) :: rest)) := lv_icmp_gt hx hb d ht (fun h => kt ((nI_ltI h2 h1).mp h)) (fun h => kf (Nat.not_lt.mp (fun q => h ((nI_ltI h2 h1).mpr q))))
theorem q_icmp_le (hx : p.tables.exec = Jvm.exec) (hb : c0.code = cc) {x y : Nat} {off : Int} {tgt : Nat} (h1 : x < 2 ^ 31) (h2 : y < 2 ^ 31) (d : decode cc pc = .ok (.if_icmp .le off, 3)) (ht : (pc : Int) + off = (tgt : Int)) (kt : x ≤ y → W p l e R s m args below meth c0 H locs cells slots Q (F0 m tgt ls rest)) (kf : y < x → W p l e R s m args below meth c0 H locs cells slots Q (F0 m (pc + 3) ls rest)) : W p l e R s m args below meth c0 H locs cells slots Q (F0 m pc ls (.int (nI y) :: .int (nI x) :: rest)) := lv_icmp_le hx hb d ht (fun h => kt ((nI_leI h1 h2).mp h)) (fun h => kf (Nat.not_le.mp (fun q => h ((nI_leI h1 h2).mpr q))))
theorem q_if_eq (hx : p.tables.exec = Jvm.exec) (hb : c0.code = cc) {x : Nat} {off : Int} {tgt : Nat} (h1 : x < 2 ^ 31) (d : decode cc pc = .ok (.ifCond .eq off, 3)) (ht : (pc : Int) + off = (tgt : Int)) (kt : x = 0 → W p l e R s m args below meth c0 H locs cells slots Q (F0 m tgt ls rest)) (kf : ¬ x = 0 → W p l e R s m args below meth c0 H locs cells slots Q (F0 m (pc + 3) ls rest)) : W p l e R s m args below meth c0 H locs cells slots Q (F0 m pc ls (.int (nI x) :: rest)) := lv_if_eq hx hb d ht (fun h => kt ((nI_eq h1 (by decide)).mp (h.trans nI_0.symm))) (fun h => kf (fun q => h (by rw [q]; exact nI_0)))
theorem q_if_ne (hx : p.tables.exec = Jvm.exec) (hb : c0.code = cc) {x : Nat} {off : Int} {tgt : Nat} (h1 : x < 2 ^ 31) (d : decode cc pc = .ok (.ifCond .ne off, 3)) (ht : (pc : Int) + off = (tgt : Int)) (kt : ¬ x = 0 → W p l e R s m args below meth c0 H locs cells slots Q (F0 m tgt ls rest)) (kf : x = 0 → W p l e R s m args below meth c0 H locs cells slots Q (F0 m (pc + 3) ls rest)) : W p l e R s m args below meth c0 H locs cells slots Q (F0 m pc ls (.int (nI x) :: rest)) := lv_if_ne hx hb d ht (fun h => kt (fun q => h (by rw [q]; exact nI_0))) (fun h => kf ((nI_eq h1 (by decide)).mp (h.trans nI_0.symm)))
theorem q_if_le (hx : p.tables.exec = Jvm.exec) (hb : c0.code = cc) {x : Nat} {off : Int} {tgt : Nat} (h1 : x < 2 ^ 31) (d : decode cc pc = .ok (.ifCond .le off, 3)) (ht : (pc : Int) + off = (tgt : Int)) (kt : x = 0 → W p l e R s m args below meth c0 H locs cells slots Q (F0 m tgt ls rest)) (kf : ¬ x = 0 → W p l e R s m args below meth c0 H locs cells slots Q (F0 m (pc + 3) ls rest)) : W p l e R s m args below meth c0 H locs cells slots Q (F0 m pc ls (.int (nI x) :: rest)) := lv_if_le hx hb d ht (fun h => kt (by
  rcases Nat.eq_zero_or_pos x with q | q
  · exact q
  · exact absurd h (nI_nle q h1))) (fun h => kf (fun q => h (by rw [q, nI_0]; exact Int32.le_refl 0)))
theorem q_ifb_eq (hx : p.tables.exec = Jvm.exec) (hb : c0.code = cc) {x : Bool} {off : Int} {tgt : Nat} (d : decode cc pc = .ok (.ifCond .eq off, 3)) (ht : (pc : Int) + off = (tgt : Int)) (kt : x = false → W p l e R s m args below meth c0 H locs cells slots Q (F0 m tgt ls rest)) (kf : x = true → W p l e R s m args below meth c0 H locs cells slots Q (F0 m (pc + 3) ls rest)) : W p l e R s m args below meth c0 H locs cells slots Q (F0 m pc ls (.int (bI x) :: rest)) := lv_if_eq hx hb d ht (fun h => kt ((bI_eq0 x).mp h)) (fun h => kf (by cases x with | true => rfl | false => exact absurd rfl h))
theorem q_ifb_ne (hx : p.tables.exec = Jvm.exec) (hb : c0.code = cc) {x : Bool} {off : Int} {tgt : Nat} (d : decode cc pc = .ok (.ifCond .ne off, 3)) (ht : (pc : Int) + off = (tgt : Int)) (kt : x = true → W p l e R s m args below meth c0 H locs cells slots Q (F0 m tgt ls rest)) (kf : x = false → W p l e R s m args below meth c0 H locs cells slots Q (F0 m (pc + 3) ls rest)) : W p l e R s m args below meth c0 H locs cells slots Q (F0 m pc ls (.int (bI x) :: rest)) := lv_if_ne hx hb d ht (fun h => kt (by cases x with | true => rfl | false => exact absurd rfl h)) (fun h => kf ((bI_eq0 x).mp h))
end GG
