/-! ===== bits (the first rows turned from kit/laws/BITS.to-paste) and what the class's methods do to its state ===== -/
theorem ts_nf {x : Bool} (h : ¬ x = false) : x = true := by cases x <;> first | rfl | exact absurd rfl h
theorem ts_nt {x : Bool} (h : ¬ x = true) : x = false := by cases x <;> first | rfl | exact absurd rfl h
theorem ts_bit {w : Int64} {s : UInt64} {j : Nat} (hj : j < 64) (hs : s.toNat = j) : ((w.toUInt64 >>> s).toInt64 &&& 1) = 0 ↔ w.toBitVec.getLsbD j = false := by
  have e : (w.toUInt64 >>> s).toInt64.toBitVec = w.toBitVec >>> j := by
    apply BitVec.eq_of_toNat_eq
    show (w.toUInt64 >>> s).toNat = _
    rw [UInt64.toNat_shiftRight, hs, Nat.mod_eq_of_lt hj, BitVec.toNat_ushiftRight]
    rfl
  rw [← Int64.toBitVec_inj, Int64.toBitVec_and, e]
  show w.toBitVec >>> j &&& 1#64 = 0#64 ↔ _
  constructor
  · intro h
    have t := congrArg (fun x => x.getLsbD 0) h
    simpa using t
  · intro h
    apply BitVec.eq_of_getLsbD_eq
    intro i hi
    cases i with
    | zero => simpa using h
    | succ n => simp
theorem wb_cu : ∀ k, k < 64 → ((nI k).toInt64.toUInt64 &&& Int64.toUInt64 63) = UInt64.ofNat k := by decide +kernel
theorem u_tn {n : Nat} (h : n < 2 ^ 64) : (UInt64.ofNat n).toNat = n := Nat.mod_eq_of_lt h
theorem lg_cmp_0 (x y : Int64) : lg_cmp x y = 0 ↔ x = y := by
  unfold lg_cmp
  by_cases h : x > y
  · rw [if_pos h]
    exact ⟨fun q => absurd q (by decide), fun q => by subst q; exact absurd h Int64.lt_irrefl⟩
  · rw [if_neg h]
    by_cases q : x = y
    · rw [if_pos q]; exact ⟨fun _ => q, fun _ => rfl⟩
    · rw [if_neg q]; exact ⟨fun z => absurd z (by decide), fun z => absurd z q⟩
def hbL (x : Int64) (k : Nat) : Bool := x.toBitVec.getLsbD k
theorem hb_cmp (x : Int64) {k : Nat} (hk : k < 64) : lg_cmp ((x.toUInt64 >>> ((nI k).toInt64.toUInt64 &&& Int64.toUInt64 63)).toInt64 &&& 1) 0 = 0 ↔ hbL x k = false := by
  rw [lg_cmp_0, wb_cu k hk]
  exact ts_bit hk (u_tn (by omega))
def isW (a : Int32) : Bool := !decide (a < 0) && !decide (nI 32 ≤ a)
def areW (a n : Int32) : Bool := !decide (n < nI 1) && !decide (nI 8 < n) && !decide (a < 0) && !decide (nI 32 - n < a)
def roomF (c : CS) (n : Nat) : Bool := decide (n + 1 ≤ 40 - c_tk c)
def setA (c : CS) (w : Bool) : CS := if c_nk c = true ∧ w = false then cs_tk (cs_sz c (c_sz c - 1)) (c_sc c (c_sz c - 1)) else c
def setB (c : CS) (x : Bool) : CS := if c_xo c = true ∧ x = true then cs_tk (cs_sz c 0) 0 else c
def settleF (c : CS) (w x : Bool) : CS := cs_xo (cs_nk (setB (setA c w) x) false) false
def keepM (c : CS) (n : Nat) : Nat → Int64 := fun j => if j < n ∧ hbL (c_mk c) j = true then c_S c j else c_K c j
def loseF (c : CS) : CS := cs_fl (cs_op (cs_on (settleF (cs_K c (keepM c 32)) (hbL (c_mk c) 32) (hbL (c_mk c) 33)) false) false) 0
def endActF (c : CS) : Bool × CS := if c_au c = 0 then (true, cs_ad c (c_ad c + 1)) else if c_au c - 1 = 0 then (false, loseF (cs_au (cs_ad c (c_ad c + 1)) (c_au c - 1))) else (true, cs_au (cs_ad c (c_ad c + 1)) (c_au c - 1))
def runF : List (CS → CS) → CS → Bool × CS
  | [], c => (true, c)
  | f :: fs, c => if (endActF (f c)).1 = true then runF fs (endActF (f c)).2 else (false, (endActF (f c)).2)
theorem runF_one (f : CS → CS) (c : CS) : runF [f] c = endActF (f c) := by
  show (if (endActF (f c)).1 = true then (true, (endActF (f c)).2) else (false, (endActF (f c)).2)) = _
  generalize endActF (f c) = u
  obtain ⟨b, v⟩ := u
  cases b <;> rfl
def keepL (c : CS) (n : Nat) : Nat → Int64 := fun j => if j < n ∧ hbL (c_fl c).toInt64 (j / 8) = true then c_S c j else c_K c j
def fenceA (c : CS) : CS := cs_fl (cs_K c (keepL c 32)) 0
def flushA (k : Nat) (c : CS) : CS := cs_fl c (c_fl c ||| (nI 1 <<< (nI k &&& 31)))
def storeA (k : Nat) (v : Int64) (c : CS) : CS := cs_S c (vp_updL (c_S c) k v)
def writeA (k n : Nat) (c : CS) : CS := cs_nk (cs_sz (cs_tk (cs_ce (cs_sc (cs_co (cs_fi c (upN (c_fi c) (c_sz c) k)) (upN (c_co c) (c_sz c) n)) (upN (c_sc c) (c_sz c) (c_tk c))) (va_cpy (c_S c) (c_ce c) k (c_tk c + 1) n)) (c_tk c + (n + 1))) (c_sz c + 1)) true
def keepN (c : CS) : CS := cs_nk c false
def crossA (c : CS) : CS := cs_xo c true
def dropA (c : CS) : CS := cs_xo (cs_tk (cs_sz c 0) 0) false
def anyTo (p : Nat → Bool) : Nat → Bool
  | 0 => false
  | n + 1 => anyTo p n || p n
theorem anyTo_mono {p : Nat → Bool} {n k : Nat} (hk : k < n) (h : p k = true) : anyTo p n = true := by
  induction n with
  | zero => omega
  | succ n ih =>
    by_cases e : k = n
    · subst e; simp [anyTo, h]
    · simp [anyTo, ih (by omega)]
def covP (c : CS) (k r : Nat) : Bool := decide (c_fi c r ≤ k) && decide (k < c_fi c r + c_co c r)
def coversF (c : CS) (k : Nat) : Bool := anyTo (covP c k) (c_sz c)
def covL (c : CS) : Nat → Int32
  | 0 => nI 0
  | r + 1 => (covL c r ||| (nI 1 <<< (nI (c_fi c r / 8) &&& 31))) ||| (nI 1 <<< (nI ((c_fi c r + c_co c r - 1) / 8) &&& 31))
def plainL (n : Nat) : List (CS → CS) := List.replicate n (fun c => c)
def linesL (x : Int32) : Nat → List (CS → CS)
  | 0 => [fenceA]
  | k + 1 => if hbL x.toInt64 (4 - (k + 1)) = true then flushA (4 - (k + 1)) :: linesL x k else linesL x k
def keepLinesF (x : Int32) (c : CS) : Bool × CS := if x = 0 then (true, c) else runF (linesL x 4) c
def clearF (c : CS) : Bool × CS := if c_sz c = 0 then (true, c) else runF [crossA, fun c => c, fun c => fenceA (dropA c)] c
def soI (c : CS) (r : Nat) : Nat → List (CS → CS)
  | 0 => []
  | k + 1 => storeA (c_fi c r + (c_co c r - (k + 1))) (c_ce c (c_sc c r + 1 + (c_co c r - (k + 1)))) :: soI c r k
def soR (c : CS) : Nat → List (CS → CS)
  | 0 => []
  | k + 1 => soI c k (c_co c k) ++ soR c k
def stOldF (c : CS) : Bool × CS := runF (soR c (c_sz c)) c
def undoF (c : CS) : Bool × CS := if (stOldF c).1 = true then (if (keepLinesF (covL (stOldF c).2 (c_sz (stOldF c).2)) (stOldF c).2).1 = true then clearF (keepLinesF (covL (stOldF c).2 (c_sz (stOldF c).2)) (stOldF c).2).2 else (false, (keepLinesF (covL (stOldF c).2 (c_sz (stOldF c).2)) (stOldF c).2).2)) else (false, (stOldF c).2)
def appendL (k n : Nat) : List (CS → CS) := plainL (n + 1) ++ [writeA k n, fun c => c, fun c => fenceA (keepN c)]
def bRes (b : Bool) : Int32 := if b = true then nI 0 else (-2)
/-! the class's public methods: answer and next state -/
def armF (n : Int32) (mk : Int64) (c : CS) : Bool × CS := if n < 0 then (false, c) else if nI 500 < n then (false, c) else (true, cs_mk (cs_au c n.toNatClampNeg) mk)
def beginF (c : CS) : Int32 × CS := if c_on c = false then ((-1), c) else if c_op c = true then ((-1), c) else (nI 0, cs_sl (cs_op c true) 0)
def snapF (a n : Int32) (c : CS) : Int32 × CS := if c_op c = false then ((-1), c) else if areW a n = false then ((-1), c) else if roomF c n.toNatClampNeg = false then ((-1), c) else (bRes (runF (appendL a.toNatClampNeg n.toNatClampNeg) c).1, (runF (appendL a.toNatClampNeg n.toNatClampNeg) c).2)
def slA (k : Nat) (c : CS) : CS := cs_sl c (c_sl c ||| (nI 1 <<< (nI (k / 8) &&& 31)))
def storeF (a : Int32) (v : Int64) (c : CS) : Int32 × CS := if c_op c = false then ((-1), c) else if isW a = false then ((-1), c) else if coversF c a.toNatClampNeg = false then ((-1), c) else (bRes (endActF (storeA a.toNatClampNeg v (slA a.toNatClampNeg c))).1, (endActF (storeA a.toNatClampNeg v (slA a.toNatClampNeg c))).2)
def commitF (c : CS) : Int32 × CS := if c_op c = false then ((-1), c) else if (keepLinesF (c_sl c) c).1 = false then ((-2), (keepLinesF (c_sl c) c).2) else if (clearF (keepLinesF (c_sl c) c).2).1 = false then ((-2), (clearF (keepLinesF (c_sl c) c).2).2) else (nI 0, cs_op (clearF (keepLinesF (c_sl c) c).2).2 false)
def abortF (c : CS) : Int32 × CS := if c_op c = false then ((-1), c) else if (undoF c).1 = false then ((-2), (undoF c).2) else (nI 0, cs_op (undoF c).2 false)
def recA (c : CS) : CS := cs_S (cs_on c true) (va_cpy (c_K c) (c_S c) 0 0 32)
def recoverF (c : CS) : Int32 × CS := if c_on c = true then ((-1), c) else (bRes (undoF (recA c)).1, (undoF (recA c)).2)
def seenF (a : Int32) (c : CS) : Int64 := if c_on c = false then 0 else if isW a = false then 0 else c_S c a.toNatClampNeg
def keptF (a : Int32) (c : CS) : Int64 := if isW a = false then 0 else c_K c a.toNatClampNeg
section CP
variable {p : Program} {l : Launch} {e : Env} {R : Room} {s : State} {m : MethodId} {args : Array Value} {below : List Frame} {meth : Method} {c0 : Code} {H : Heap} {locs : List Loc} {cells slots : Nat} {Q : State → Prop}
variable {cc : ByteArray} {pc : Nat} {ls : Array Slot} {rest : List Value} {D : va_G} {A : Nat → Prop} {own : String} {index : Nat} {a : Nat → Nat} {y : Nat → ClassId} {t : va_W} {c : CS}
theorem cy_S_ce {sp dp n : Nat} (hx : p.tables.exec = Jvm.exec) (hb : c0.code = cc) (hml : c0.maxLocals = ls.size) (hown : s.vm.findClass own = some m.cls) (hlink : (Cond.methodLink own index arraycopyName).before args s = true) (hnat : (Cond.native arraycopyName).before args s = true) (hstat : (Cond.static arraycopyName).before args s = true) (hini : (Cond.initialized "java/lang/System").before args s = true)
    (hK : va_K D vwCl (tyA y) s) (hP : va_P D vwCl (wC a y c t) H) (hD : va_D A (wC a y c t)) (hS : va_S A s.heap H locs) (h4 : sp + n ≤ 32) (h5 : dp + n ≤ 40) (hframes : 1 ≤ R.frames) (hlocals : (rest.map fun v => v.category).sum + (nativeFrameWords "java/lang/System" "arraycopy" 5 + 11) ≤ R.locals) (d : decode cc pc = .ok (.invokestatic index, 3))
    (kk : ∀ (H1 : Heap) (locs1 : List Loc), va_P D vwCl (wC a y (cs_ce c (va_cpy (c_S c) (c_ce c) sp dp n)) t) H1 → va_D A (wC a y (cs_ce c (va_cpy (c_S c) (c_ce c) sp dp n)) t) → va_S A s.heap H1 locs1 → W p l e R s m args below meth c0 H1 locs1 cells slots Q (F0 m (pc + 3) ls rest)) : W p l e R s m args below meth c0 H locs cells slots Q (F0 m pc ls (.int (nI n) :: .int (nI dp) :: .ref (a 7) :: .int (nI sp) :: .ref (a 1) :: rest)) :=
  va_copyl hx hb hml hown hlink hnat hstat hini hK hP hD hS 1 7 1 1 rfl rfl rfl rfl rfl (nI_pos (by omega)) (nI_pos (by omega)) (nI_pos (by omega)) (by rw [nI_clamp (by omega), nI_clamp (by omega)]; exact h4) (by rw [nI_clamp (by omega), nI_clamp (by omega)]; exact h5) (fun i hi => rfl) hframes hlocals d (fun H1 l1 h1 h2 h3 => by
    rw [nI_clamp (n := sp) (by omega), nI_clamp (n := dp) (by omega), nI_clamp (n := n) (by omega)] at h1 h2
    exact kk H1 l1 h1 h2 h3)
theorem cy_K_S {sp dp n : Nat} (hx : p.tables.exec = Jvm.exec) (hb : c0.code = cc) (hml : c0.maxLocals = ls.size) (hown : s.vm.findClass own = some m.cls) (hlink : (Cond.methodLink own index arraycopyName).before args s = true) (hnat : (Cond.native arraycopyName).before args s = true) (hstat : (Cond.static arraycopyName).before args s = true) (hini : (Cond.initialized "java/lang/System").before args s = true)
    (hK : va_K D vwCl (tyA y) s) (hP : va_P D vwCl (wC a y c t) H) (hD : va_D A (wC a y c t)) (hS : va_S A s.heap H locs) (h4 : sp + n ≤ 32) (h5 : dp + n ≤ 32) (hframes : 1 ≤ R.frames) (hlocals : (rest.map fun v => v.category).sum + (nativeFrameWords "java/lang/System" "arraycopy" 5 + 11) ≤ R.locals) (d : decode cc pc = .ok (.invokestatic index, 3))
    (kk : ∀ (H1 : Heap) (locs1 : List Loc), va_P D vwCl (wC a y (cs_S c (va_cpy (c_K c) (c_S c) sp dp n)) t) H1 → va_D A (wC a y (cs_S c (va_cpy (c_K c) (c_S c) sp dp n)) t) → va_S A s.heap H1 locs1 → W p l e R s m args below meth c0 H1 locs1 cells slots Q (F0 m (pc + 3) ls rest)) : W p l e R s m args below meth c0 H locs cells slots Q (F0 m pc ls (.int (nI n) :: .int (nI dp) :: .ref (a 1) :: .int (nI sp) :: .ref (a 2) :: rest)) :=
  va_copyl hx hb hml hown hlink hnat hstat hini hK hP hD hS 2 1 1 1 rfl rfl rfl rfl rfl (nI_pos (by omega)) (nI_pos (by omega)) (nI_pos (by omega)) (by rw [nI_clamp (by omega), nI_clamp (by omega)]; exact h4) (by rw [nI_clamp (by omega), nI_clamp (by omega)]; exact h5) (fun i hi => rfl) hframes hlocals d (fun H1 l1 h1 h2 h3 => by
    rw [nI_clamp (n := sp) (by omega), nI_clamp (n := dp) (by omega), nI_clamp (n := n) (by omega)] at h1 h2
    exact kk H1 l1 h1 h2 h3)
end CP
