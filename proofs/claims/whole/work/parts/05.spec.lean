/-! ===== bits (the first rows turned from kit/laws/BITS.to-paste) and what the class's methods do to its state ===== -/
theorem ts_nf {x : Bool} (h : ¬ x = false) : x = true := by cases x <;> first | rfl | exact absurd rfl h
theorem ts_nt {x : Bool} (h : ¬ x = true) : x = false := by cases x <;> first | rfl | exact absurd rfl h
theorem ts_bit {w : Int64} {s : UInt64} {j : Nat} (hj : j < 64) (hs : s.toNat = j) : ((w.toUInt64 >>> s).toInt64 &&& 1) = 0 ↔ w.toBitVec.getLsbD j = false := by
  have e : (w.toUInt64 >>> s).toInt64.toBitVec = w.toBitVec >>> j := by
    apply BitVec.eq_of_toNat_eq
    show (w.toUInt64 >>> s).toNat = _
    rw [UInt64.toNat_shiftRight, hs, Nat.mod_eq_of_lt hj, BitVec.toNat_ushiftRight]
    rfl
  rw [← Int64.toBitVec_inj, Int64.toBitVec_and, e]
  show w.toBitVec >>> j &&& 1#64 = 0#64 ↔ _
  constructor
  · intro h
    have t := congrArg (fun x => x.getLsbD 0) h
    simpa using t
  · intro h
    apply BitVec.eq_of_getLsbD_eq
    intro i hi
    cases i with
    | zero => simpa using h
    | succ n => simp
theorem wb_cu : ∀ k, k < 64 → ((nI k).toInt64.toUInt64 &&& Int64.toUInt64 63) = UInt64.ofNat k := by decide +kernel
theorem u_tn {n : Nat} (h : n < 2 ^ 64) : (UInt64.ofNat n).toNat = n := Nat.mod_eq_of_lt h
theorem lg_cmp_0 (x y : Int64) : lg_cmp x y = 0 ↔ x = y := by
  unfold lg_cmp
  by_cases h : x > y
  · rw [if_pos h]
    exact ⟨fun q => absurd q (by decide), fun q => by subst q; exact absurd h Int64.lt_irrefl⟩
  · rw [if_neg h]
    by_cases q : x = y
    · rw [if_pos q]; exact ⟨fun _ => q, fun _ => rfl⟩
    · rw [if_neg q]; exact ⟨fun z => absurd z (by decide), fun z => absurd z q⟩
def hbL (x : Int64) (k : Nat) : Bool := x.toBitVec.getLsbD k
theorem hb_cmp (x : Int64) {k : Nat} (hk : k < 64) : lg_cmp ((x.toUInt64 >>> ((nI k).toInt64.toUInt64 &&& Int64.toUInt64 63)).toInt64 &&& 1) 0 = 0 ↔ hbL x k = false := by
  rw [lg_cmp_0, wb_cu k hk]
  exact ts_bit hk (u_tn (by omega))
def isW (a : Int32) : Bool := !decide (a < 0) && !decide (nI 32 ≤ a)
def areW (a n : Int32) : Bool := !decide (n < nI 1) && !decide (nI 8 < n) && !decide (a < 0) && !decide (nI 32 - n < a)
def roomF (c : CS) (n : Nat) : Bool := decide (n + 1 ≤ 40 - c_tk c)
def settleF (c : CS) (w x : Bool) : CS := cs_xo (cs_nk (if c_nk c = true ∧ w = false then (if c_xo c = true ∧ x = true then cs_tk (cs_sz (cs_tk (cs_sz c (c_sz c - 1)) (c_sc c (c_sz c - 1))) 0) 0 else cs_tk (cs_sz c (c_sz c - 1)) (c_sc c (c_sz c - 1))) else (if c_xo c = true ∧ x = true then cs_tk (cs_sz c 0) 0 else c)) false) false
def keepM (c : CS) (n : Nat) : Nat → Int64 := fun j => if j < n ∧ hbL (c_mk c) j = true then c_S c j else c_K c j
def loseF (c : CS) : CS := cs_fl (cs_op (cs_on (settleF (cs_K c (keepM c 32)) (hbL (c_mk c) 32) (hbL (c_mk c) 33)) false) false) (nI 0)
def endActF (c : CS) : Bool × CS := if c_au c = 0 then (true, cs_ad c (c_ad c + nI 1)) else if c_au c - 1 = 0 then (false, loseF (cs_au (cs_ad c (c_ad c + nI 1)) (c_au c - 1))) else (true, cs_au (cs_ad c (c_ad c + nI 1)) (c_au c - 1))
def runF : List (CS → CS) → CS → Bool × CS
  | [], c => (true, c)
  | f :: fs, c => if (endActF (f c)).1 = true then runF fs (endActF (f c)).2 else (false, (endActF (f c)).2)
theorem runF_one (f : CS → CS) (c : CS) : runF [f] c = endActF (f c) := by
  show (if (endActF (f c)).1 = true then (true, (endActF (f c)).2) else (false, (endActF (f c)).2)) = _
  generalize endActF (f c) = u
  obtain ⟨b, v⟩ := u
  cases b <;> rfl
def keepL (c : CS) (n : Nat) : Nat → Int64 := fun j => if j < n ∧ hbL (c_fl c).toInt64 (j / 8) = true then c_S c j else c_K c j
def fenceA (c : CS) : CS := cs_fl (cs_K c (keepL c 32)) (nI 0)
def flushA (k : Nat) (c : CS) : CS := cs_fl c (c_fl c ||| (nI 1 <<< (nI k &&& 31)))
def storeA (k : Nat) (v : Int64) (c : CS) : CS := cs_S c (vp_updL (c_S c) k v)
def writeA (k n : Nat) (c : CS) : CS := cs_nk (cs_sz (cs_tk (cs_ce (cs_sc (cs_co (cs_fi c (upN (c_fi c) (c_sz c) k)) (upN (c_co c) (c_sz c) n)) (upN (c_sc c) (c_sz c) (c_tk c))) (va_cpy (c_S c) (c_ce c) k (c_tk c + 1) n)) (c_tk c + (n + 1))) (c_sz c + 1)) true
def keepN (c : CS) : CS := cs_nk c false
def crossA (c : CS) : CS := cs_xo c true
def dropA (c : CS) : CS := cs_xo (cs_tk (cs_sz c 0) 0) false
def anyTo (p : Nat → Bool) : Nat → Bool
  | 0 => false
  | n + 1 => anyTo p n || p n
theorem anyTo_mono {p : Nat → Bool} {n k : Nat} (hk : k < n) (h : p k = true) : anyTo p n = true := by
  induction n with
  | zero => omega
  | succ n ih =>
    by_cases e : k = n
    · subst e; simp [anyTo, h]
    · simp [anyTo, ih (by omega)]
def covP (c : CS) (k r : Nat) : Bool := decide (c_fi c r ≤ k) && decide (k < c_fi c r + c_co c r)
def coversF (c : CS) (k : Nat) : Bool := anyTo (covP c k) (c_sz c)
def covL (c : CS) : Nat → Int32
  | 0 => nI 0
  | r + 1 => (covL c r ||| (nI 1 <<< (nI (c_fi c r / 8) &&& 31))) ||| (nI 1 <<< (nI ((c_fi c r + c_co c r - 1) / 8) &&& 31))
def plainL (n : Nat) : List (CS → CS) := List.replicate n (fun c => c)
def linesL (x : Int32) : Nat → List (CS → CS)
  | 0 => [fenceA]
  | k + 1 => if hbL x.toInt64 (4 - (k + 1)) = true then flushA (4 - (k + 1)) :: linesL x k else linesL x k
def keepLinesF (x : Int32) (c : CS) : Bool × CS := if x = 0 then (true, c) else runF (linesL x 4) c
def twoF (g f : CS → CS) (c : CS) : Bool × CS := if (runF (plainL 2) (g c)).1 = true then endActF (f (runF (plainL 2) (g c)).2) else (false, (runF (plainL 2) (g c)).2)
def clearF (c : CS) : Bool × CS := if c_sz c = 0 then (true, c) else twoF crossA (fun c => fenceA (dropA c)) c
def soI (c : CS) (r : Nat) : Nat → List (CS → CS)
  | 0 => []
  | k + 1 => storeA (c_fi c r + (c_co c r - (k + 1))) (c_ce c (c_sc c r + 1 + (c_co c r - (k + 1)))) :: soI c r k
def soR (c : CS) : Nat → List (CS → CS)
  | 0 => []
  | k + 1 => soI c k (c_co c k) ++ soR c k
def stOldF (c : CS) : Bool × CS := runF (soR c (c_sz c)) c
def undoF (c : CS) : Bool × CS := if (stOldF c).1 = true then (if (keepLinesF (covL (stOldF c).2 (c_sz (stOldF c).2)) (stOldF c).2).1 = true then clearF (keepLinesF (covL (stOldF c).2 (c_sz (stOldF c).2)) (stOldF c).2).2 else (false, (keepLinesF (covL (stOldF c).2 (c_sz (stOldF c).2)) (stOldF c).2).2)) else (false, (stOldF c).2)
def appendF (k n : Nat) (c : CS) : Bool × CS := if (runF (plainL (n + 1)) c).1 = true then twoF (writeA k n) (fun c => fenceA (keepN c)) (runF (plainL (n + 1)) c).2 else (false, (runF (plainL (n + 1)) c).2)
def bRes (b : Bool) : Int32 := if b = true then nI 0 else (-2)
/-! the class's public methods: answer and next state -/
def armF (n : Int32) (mk : Int64) (c : CS) : Bool × CS := if n < 0 then (false, c) else if nI 500 < n then (false, c) else (true, cs_mk (cs_au c n.toNatClampNeg) mk)
def beginF (c : CS) : Int32 × CS := if c_on c = false then ((-1), c) else if c_op c = true then ((-1), c) else (nI 0, cs_sl (cs_op c true) (nI 0))
def snapF (a n : Int32) (c : CS) : Int32 × CS := if c_op c = false then ((-1), c) else if areW a n = false then ((-1), c) else if roomF c n.toNatClampNeg = false then ((-1), c) else (bRes (appendF a.toNatClampNeg n.toNatClampNeg c).1, (appendF a.toNatClampNeg n.toNatClampNeg c).2)
def slA (k : Nat) (c : CS) : CS := cs_sl c (c_sl c ||| (nI 1 <<< (nI (k / 8) &&& 31)))
def storeF (a : Int32) (v : Int64) (c : CS) : Int32 × CS := if c_op c = false then ((-1), c) else if isW a = false then ((-1), c) else if coversF c a.toNatClampNeg = false then ((-1), c) else (bRes (endActF (storeA a.toNatClampNeg v (slA a.toNatClampNeg c))).1, (endActF (storeA a.toNatClampNeg v (slA a.toNatClampNeg c))).2)
def commitF (c : CS) : Int32 × CS := if c_op c = false then ((-1), c) else if (keepLinesF (c_sl c) c).1 = false then ((-2), (keepLinesF (c_sl c) c).2) else if (clearF (keepLinesF (c_sl c) c).2).1 = false then ((-2), (clearF (keepLinesF (c_sl c) c).2).2) else (nI 0, cs_op (clearF (keepLinesF (c_sl c) c).2).2 false)
def abortF (c : CS) : Int32 × CS := if c_op c = false then ((-1), c) else if (undoF c).1 = false then ((-2), (undoF c).2) else (nI 0, cs_op (undoF c).2 false)
def recA (c : CS) : CS := cs_S (cs_on c true) (va_cpy (c_K c) (c_S c) 0 0 32)
def recoverF (c : CS) : Int32 × CS := if c_on c = true then ((-1), c) else (bRes (undoF (recA c)).1, (undoF (recA c)).2)
def seenF (a : Int32) (c : CS) : Int64 := if c_on c = false then 0 else if isW a = false then 0 else c_S c a.toNatClampNeg
def keptF (a : Int32) (c : CS) : Int64 := if isW a = false then 0 else c_K c a.toNatClampNeg
/-! what the walks need of them -/
def CB (c : CS) : Prop := c_sz c ≤ 20 ∧ (c_nk c = true → 1 ≤ c_sz c) ∧ c_au c ≤ 500
def SF (c : CS) : Prop := CB c ∧ ∀ r, r < c_sz c → 1 ≤ c_co c r ∧ c_co c r ≤ 8 ∧ c_fi c r + c_co c r ≤ 32 ∧ c_sc c r + 1 + c_co c r ≤ 40
theorem keepM_0 (c : CS) : keepM c 0 = c_K c := by funext j; simp [keepM]
theorem keepM_t {c : CS} {i : Nat} (h : hbL (c_mk c) i = true) : vp_updL (keepM c i) i (c_S c i) = keepM c (i + 1) := by
  funext j
  by_cases e : j = i
  · subst e; simp [vp_updL, keepM, h]
  · have q : j < i ↔ j < i + 1 := by omega
    simp [vp_updL, keepM, e, q]
theorem keepM_f {c : CS} {i : Nat} (h : hbL (c_mk c) i = false) : keepM c i = keepM c (i + 1) := by
  funext j
  by_cases e : j = i
  · subst e; simp [keepM, h]
  · have q : j < i ↔ j < i + 1 := by omega
    simp [keepM, q]
theorem keepL_0 (c : CS) : keepL c 0 = c_K c := by funext j; simp [keepL]
theorem keepL_t {c : CS} {i : Nat} (h : hbL (c_fl c).toInt64 (i / 8) = true) : vp_updL (keepL c i) i (c_S c i) = keepL c (i + 1) := by
  funext j
  by_cases e : j = i
  · subst e; simp [vp_updL, keepL, h]
  · have q : j < i ↔ j < i + 1 := by omega
    simp [vp_updL, keepL, e, q]
theorem keepL_f {c : CS} {i : Nat} (h : hbL (c_fl c).toInt64 (i / 8) = false) : keepL c i = keepL c (i + 1) := by
  funext j
  by_cases e : j = i
  · subst e; simp [keepL, h]
  · have q : j < i ↔ j < i + 1 := by omega
    simp [keepL, q]
/-- an act that didn't lose the power changes the two counters alone -/
theorem endAct_ok {c : CS} (h : (endActF c).1 = true) : ∃ v : Nat, (endActF c).2 = cs_au (cs_ad c (c_ad c + nI 1)) v ∧ v ≤ c_au c := by
  unfold endActF at h ⊢
  by_cases h1 : c_au c = 0
  · rw [if_pos h1]
    exact ⟨c_au c, rfl, Nat.le_refl _⟩
  · rw [if_neg h1] at h ⊢
    by_cases h2 : c_au c - 1 = 0
    · rw [if_pos h2] at h; cases h
    · rw [if_neg h2]
      exact ⟨_, rfl, Nat.sub_le _ _⟩
theorem CB_ok {c : CS} (hB : CB c) (h : (endActF c).1 = true) : CB (endActF c).2 := by
  obtain ⟨v, e, hv⟩ := endAct_ok h
  rw [e]
  exact ⟨hB.1, hB.2.1, Nat.le_trans hv hB.2.2⟩
theorem SF_ok {c : CS} (hB : SF c) (h : (endActF c).1 = true) : SF (endActF c).2 := by
  refine ⟨CB_ok hB.1 h, ?_⟩
  obtain ⟨v, e, hv⟩ := endAct_ok h
  rw [e]
  exact hB.2
theorem runF_t {f : CS → CS} {fs : List (CS → CS)} {c : CS} (h : (endActF (f c)).1 = true) : runF (f :: fs) c = runF fs (endActF (f c)).2 := by
  show (if (endActF (f c)).1 = true then _ else _) = _
  rw [if_pos h]
theorem runF_f {f : CS → CS} {fs : List (CS → CS)} {c : CS} (h : (endActF (f c)).1 = false) : runF (f :: fs) c = (false, (endActF (f c)).2) := by
  show (if (endActF (f c)).1 = true then _ else _) = _
  rw [if_neg (by rw [h]; decide)]
theorem runF_app (xs ys : List (CS → CS)) : ∀ c : CS, runF (xs ++ ys) c = if (runF xs c).1 = true then runF ys (runF xs c).2 else (false, (runF xs c).2) := by
  induction xs with
  | nil => intro c; rfl
  | cons f fs ih =>
    intro c
    rw [List.cons_append]
    cases h : (endActF (f c)).1 with
    | true => rw [runF_t h, runF_t h, ih]
    | false => rw [runF_f h, runF_f h]; rfl
theorem plainL_s {k : Nat} (h : 0 < k) : plainL k = (fun c => c) :: plainL (k - 1) := by
  obtain ⟨j, rfl⟩ : ∃ j, k = j + 1 := ⟨k - 1, by omega⟩
  rfl
theorem linesL_t {x : Int32} {i : Nat} (hi : i < 4) (h : hbL x.toInt64 i = true) : linesL x (4 - i) = flushA i :: linesL x (4 - (i + 1)) := by
  obtain ⟨j, hj⟩ : ∃ j, 4 - i = j + 1 := ⟨3 - i, by omega⟩
  have e : 4 - (j + 1) = i := by omega
  have e2 : 4 - (i + 1) = j := by omega
  rw [hj, e2]
  show (if hbL x.toInt64 (4 - (j + 1)) = true then _ else _) = _
  rw [e, if_pos h]
theorem linesL_f {x : Int32} {i : Nat} (hi : i < 4) (h : hbL x.toInt64 i = false) : linesL x (4 - i) = linesL x (4 - (i + 1)) := by
  obtain ⟨j, hj⟩ : ∃ j, 4 - i = j + 1 := ⟨3 - i, by omega⟩
  have e : 4 - (j + 1) = i := by omega
  have e2 : 4 - (i + 1) = j := by omega
  rw [hj, e2]
  show (if hbL x.toInt64 (4 - (j + 1)) = true then _ else _) = _
  rw [e, if_neg (by rw [h]; decide)]
theorem so_congr {c d : CS} (h1 : c_fi d = c_fi c) (h2 : c_co d = c_co c) (h3 : c_sc d = c_sc c) (h4 : c_ce d = c_ce c) : (∀ r k, soI d r k = soI c r k) ∧ ∀ k, soR d k = soR c k := by
  have hi : ∀ r k, soI d r k = soI c r k := by
    intro r k
    induction k with
    | zero => rfl
    | succ k ih => simp only [soI, ih, h1, h2, h3, h4]
  refine ⟨hi, fun k => ?_⟩
  induction k with
  | zero => rfl
  | succ k ih => simp only [soR, ih, hi, h2]
theorem soI_s {c : CS} {r i : Nat} (h : i < c_co c r) : soI c r (c_co c r - i) = storeA (c_fi c r + i) (c_ce c (c_sc c r + 1 + i)) :: soI c r (c_co c r - (i + 1)) := by
  obtain ⟨j, hj⟩ : ∃ j, c_co c r - i = j + 1 := ⟨c_co c r - i - 1, by omega⟩
  have e : c_co c r - (j + 1) = i := by omega
  have e2 : c_co c r - (i + 1) = j := by omega
  rw [hj, e2]
  show storeA (c_fi c r + (c_co c r - (j + 1))) (c_ce c (c_sc c r + 1 + (c_co c r - (j + 1)))) :: soI c r j = _
  rw [e]
theorem so_t {d : CS} {j i : Nat} (h : i < c_co d j) (ok : (endActF (storeA (c_fi d j + i) (c_ce d (c_sc d j + 1 + i)) d)).1 = true) {d1 : CS} (e1 : (endActF (storeA (c_fi d j + i) (c_ce d (c_sc d j + 1 + i)) d)).2 = d1) : runF (soI d j (c_co d j - i) ++ soR d j) d = runF (soI d1 j (c_co d1 j - (i + 1)) ++ soR d1 j) d1 := by
  rw [soI_s h, List.cons_append, runF_t ok, e1]
  obtain ⟨v, e, -⟩ := endAct_ok ok
  rw [e1] at e
  have q := so_congr (c := d) (d := d1) (by rw [e]; rfl) (by rw [e]; rfl) (by rw [e]; rfl) (by rw [e]; rfl)
  have q2 : c_co d1 j = c_co d j := by rw [e]; rfl
  rw [q.1, q.2, q2]
theorem so_f {d : CS} {j i : Nat} (h : i < c_co d j) (ok : (endActF (storeA (c_fi d j + i) (c_ce d (c_sc d j + 1 + i)) d)).1 = false) : runF (soI d j (c_co d j - i) ++ soR d j) d = (false, (endActF (storeA (c_fi d j + i) (c_ce d (c_sc d j + 1 + i)) d)).2) := by
  rw [soI_s h, List.cons_append, runF_f ok]
theorem so_n {d : CS} {j i : Nat} (h : c_co d j ≤ i) : runF (soI d j (c_co d j - i) ++ soR d j) d = runF (soR d j) d := by
  rw [show c_co d j - i = 0 by omega]
  rfl
theorem sub1_s (j : Nat) : nI (j + 1) - nI 1 = nI j := by rw [pk_sub (by omega)]; congr 1
theorem sub1_neg {k : Nat} (hk : k < 2 ^ 30) : nI k - nI 1 < 0 ↔ k = 0 := by
  constructor
  · intro h
    rcases Nat.eq_zero_or_pos k with q | q
    · exact q
    · obtain ⟨j, rfl⟩ : ∃ j, k = j + 1 := ⟨k - 1, by omega⟩
      rw [sub1_s] at h
      exact absurd h (nI_pos (by omega))
  · intro h; subst h; decide
theorem dec_s (j : Nat) : nI j + (-1) = nI j - nI 1 := by
  rw [Int32.sub_eq_add_neg]; rfl
theorem areW_nat {a n : Int32} (h : areW a n = true) : ∃ ka kn : Nat, a = nI ka ∧ n = nI kn ∧ 1 ≤ kn ∧ kn ≤ 8 ∧ ka + kn ≤ 32 := by
  simp only [areW, Bool.and_eq_true, Bool.not_eq_true', decide_eq_false_iff_not] at h
  obtain ⟨⟨⟨h1, h2⟩, h3⟩, h4⟩ := h
  have e1 : ¬ n < 0 := by
    intro q
    apply h1
    rw [Int32.lt_iff_toInt_lt] at q ⊢
    have z : (0 : Int32).toInt = 0 := rfl
    have z1 : (nI 1).toInt = 1 := rfl
    omega
  obtain ⟨kn, hkn, rfl⟩ := nI_of e1
  obtain ⟨ka, hka, rfl⟩ := nI_of h3
  have b1 : ¬ kn < 1 := fun q => h1 ((nI_ltI hkn (by decide)).mpr q)
  have b2 : ¬ 8 < kn := fun q => h2 ((nI_ltI (by decide) hkn).mpr q)
  rw [pk_sub (by omega)] at h4
  have b3 : ¬ 32 - kn < ka := fun q => h4 ((nI_ltI (by omega) hka).mpr q)
  exact ⟨ka, kn, rfl, rfl, by omega, by omega, by omega⟩
theorem isW_nat {a : Int32} (h : isW a = true) : ∃ k : Nat, a = nI k ∧ k < 32 := by
  simp only [isW, Bool.and_eq_true, Bool.not_eq_true', decide_eq_false_iff_not] at h
  obtain ⟨k, hk, rfl⟩ := nI_of h.1
  exact ⟨k, rfl, Nat.not_le.mp (fun q => h.2 ((nI_leI (by decide) hk).mpr q))⟩
theorem arm_nat {n : Int32} (h : ¬ n < 0) (h2 : ¬ nI 500 < n) : ∃ k : Nat, n = nI k ∧ k ≤ 500 := by
  obtain ⟨k, hk, rfl⟩ := nI_of h
  exact ⟨k, rfl, Nat.not_lt.mp (fun q => h2 ((nI_ltI (by decide) hk).mpr q))⟩
theorem css_K (c : CS) (x y : Nat → Int64) : cs_K (cs_K c x) y = cs_K c y := rfl
theorem css_S (c : CS) (x y : Nat → Int64) : cs_S (cs_S c x) y = cs_S c y := rfl
theorem twoF_eq (g f : CS → CS) (c : CS) : twoF g f c = runF [g, fun c => c, f] c := by
  have e : plainL 2 = [fun c => c, fun c => c] := rfl
  unfold twoF
  rw [e]
  cases h : (endActF (g c)).1 with
  | false => rw [runF_f (f := fun c => c) h, runF_f h]; rfl
  | true =>
    rw [runF_t (f := fun c => c) h, runF_t h]
    cases h2 : (endActF (endActF (g c)).2).1 with
    | false => rw [runF_f (f := fun c => c) h2, runF_f (f := fun c => c) h2]; rfl
    | true =>
      rw [runF_t (f := fun c => c) h2, runF_t (f := fun c => c) h2, runF_one]
      rfl
theorem run_inv (I : CS → Prop) (hI : ∀ d, I d → (endActF d).1 = true → I (endActF d).2) : ∀ (fs : List (CS → CS)), (∀ f ∈ fs, ∀ d, I d → I (f d)) → ∀ c, I c → (runF fs c).1 = true → I (runF fs c).2 := by
  intro fs
  induction fs with
  | nil => intro _ c h _; exact h
  | cons f fs ih =>
    intro hf c h ok
    cases h1 : (endActF (f c)).1 with
    | false => rw [runF_f h1] at ok; cases ok
    | true =>
      rw [runF_t h1] at ok ⊢
      exact ih (fun g hg => hf g (List.mem_cons_of_mem _ hg)) _ (hI _ (hf f List.mem_cons_self c h) h1) ok
theorem plain_ok {c : CS} {k : Nat} (h : (runF (plainL k) c).1 = true) : ∃ (u : Int32) (v : Nat), (runF (plainL k) c).2 = cs_au (cs_ad c u) v ∧ v ≤ c_au c := by
  induction k generalizing c with
  | zero => exact ⟨c_ad c, c_au c, rfl, Nat.le_refl _⟩
  | succ k ih =>
    have e : plainL (k + 1) = (fun c => c) :: plainL k := rfl
    rw [e] at h ⊢
    cases h1 : (endActF c).1 with
    | false => rw [runF_f (f := fun c => c) h1] at h; cases h
    | true =>
      rw [runF_t (f := fun c => c) h1] at h ⊢
      obtain ⟨u, v, e1, hv⟩ := ih h
      obtain ⟨v2, e2, hv2⟩ := endAct_ok h1
      rw [e1]
      have q : (endActF c).2 = cs_au (cs_ad c (c_ad c + nI 1)) v2 := e2
      rw [q] at hv ⊢
      exact ⟨u, v, rfl, Nat.le_trans hv hv2⟩
theorem CB_plain {c : CS} {k : Nat} (hB : CB c) (h : (runF (plainL k) c).1 = true) : CB (runF (plainL k) c).2 := by
  obtain ⟨u, v, e, hv⟩ := plain_ok h
  rw [e]
  exact ⟨hB.1, hB.2.1, Nat.le_trans hv hB.2.2⟩
def SN (c : CS) : Prop := SF c ∧ c_nk c = false
theorem SN_ok (d : CS) (hd : SN d) (h : (endActF d).1 = true) : SN (endActF d).2 := by
  refine ⟨SF_ok hd.1 h, ?_⟩
  obtain ⟨v, e, -⟩ := endAct_ok h
  rw [e]
  exact hd.2
theorem soI_mem {c : CS} {r : Nat} : ∀ {k : Nat} {f : CS → CS}, f ∈ soI c r k → ∃ j v, f = storeA j v := by
  intro k
  induction k with
  | zero => intro f h; cases h
  | succ k ih =>
    intro f h
    rcases List.mem_cons.mp h with q | q
    · exact ⟨_, _, q⟩
    · exact ih q
theorem soR_mem {c : CS} : ∀ {k : Nat} {f : CS → CS}, f ∈ soR c k → ∃ j v, f = storeA j v := by
  intro k
  induction k with
  | zero => intro f h; cases h
  | succ k ih =>
    intro f h
    rcases List.mem_append.mp h with q | q
    · exact soI_mem q
    · exact ih q
theorem linesL_mem {x : Int32} : ∀ {k : Nat} {f : CS → CS}, f ∈ linesL x k → f = fenceA ∨ ∃ j, f = flushA j := by
  intro k
  induction k with
  | zero => intro f h; exact Or.inl (List.mem_singleton.mp h)
  | succ k ih =>
    intro f h
    unfold linesL at h
    by_cases q : hbL x.toInt64 (4 - (k + 1)) = true
    · rw [if_pos q] at h
      rcases List.mem_cons.mp h with z | z
      · exact Or.inr ⟨_, z⟩
      · exact ih z
    · rw [if_neg q] at h
      exact ih h
theorem SN_stOld {c : CS} (h : SN c) (ok : (stOldF c).1 = true) : SN (stOldF c).2 := by
  refine run_inv SN SN_ok _ (fun f hf d hd => ?_) c h ok
  obtain ⟨j, v, rfl⟩ := soR_mem hf
  exact hd
theorem SN_keepLines {x : Int32} {c : CS} (h : SN c) (ok : (keepLinesF x c).1 = true) : SN (keepLinesF x c).2 := by
  unfold keepLinesF at ok ⊢
  by_cases q : x = 0
  · rw [if_pos q]; exact h
  · rw [if_neg q] at ok ⊢
    refine run_inv SN SN_ok _ (fun f hf d hd => ?_) c h ok
    rcases linesL_mem hf with rfl | ⟨j, rfl⟩
    · exact hd
    · exact hd
theorem wx_S (k n : Nat) (c : CS) : c_S (writeA k n c) = c_S c := by simp only [writeA, cx_S_nk, cx_S_sz, cx_S_tk, cx_S_ce, cx_S_sc, cx_S_co, cx_S_fi]
theorem wx_K (k n : Nat) (c : CS) : c_K (writeA k n c) = c_K c := by simp only [writeA, cx_K_nk, cx_K_sz, cx_K_tk, cx_K_ce, cx_K_sc, cx_K_co, cx_K_fi]
theorem wx_on (k n : Nat) (c : CS) : c_on (writeA k n c) = c_on c := by simp only [writeA, cx_on_nk, cx_on_sz, cx_on_tk, cx_on_ce, cx_on_sc, cx_on_co, cx_on_fi]
theorem wx_op (k n : Nat) (c : CS) : c_op (writeA k n c) = c_op c := by simp only [writeA, cx_op_nk, cx_op_sz, cx_op_tk, cx_op_ce, cx_op_sc, cx_op_co, cx_op_fi]
theorem wx_fl (k n : Nat) (c : CS) : c_fl (writeA k n c) = c_fl c := by simp only [writeA, cx_fl_nk, cx_fl_sz, cx_fl_tk, cx_fl_ce, cx_fl_sc, cx_fl_co, cx_fl_fi]
theorem wx_sl (k n : Nat) (c : CS) : c_sl (writeA k n c) = c_sl c := by simp only [writeA, cx_sl_nk, cx_sl_sz, cx_sl_tk, cx_sl_ce, cx_sl_sc, cx_sl_co, cx_sl_fi]
theorem wx_au (k n : Nat) (c : CS) : c_au (writeA k n c) = c_au c := by simp only [writeA, cx_au_nk, cx_au_sz, cx_au_tk, cx_au_ce, cx_au_sc, cx_au_co, cx_au_fi]
theorem wx_mk (k n : Nat) (c : CS) : c_mk (writeA k n c) = c_mk c := by simp only [writeA, cx_mk_nk, cx_mk_sz, cx_mk_tk, cx_mk_ce, cx_mk_sc, cx_mk_co, cx_mk_fi]
theorem wx_ad (k n : Nat) (c : CS) : c_ad (writeA k n c) = c_ad c := by simp only [writeA, cx_ad_nk, cx_ad_sz, cx_ad_tk, cx_ad_ce, cx_ad_sc, cx_ad_co, cx_ad_fi]
theorem wx_fi (k n : Nat) (c : CS) : c_fi (writeA k n c) = upN (c_fi c) (c_sz c) k := by simp only [writeA, cx_fi_nk, cx_fi_sz, cx_fi_tk, cx_fi_ce, cx_fi_sc, cx_fi_co, cx_fi_fi]
theorem wx_co (k n : Nat) (c : CS) : c_co (writeA k n c) = upN (c_co c) (c_sz c) n := by simp only [writeA, cx_co_nk, cx_co_sz, cx_co_tk, cx_co_ce, cx_co_sc, cx_co_co]
theorem wx_sc (k n : Nat) (c : CS) : c_sc (writeA k n c) = upN (c_sc c) (c_sz c) (c_tk c) := by simp only [writeA, cx_sc_nk, cx_sc_sz, cx_sc_tk, cx_sc_ce, cx_sc_sc]
theorem wx_ce (k n : Nat) (c : CS) : c_ce (writeA k n c) = va_cpy (c_S c) (c_ce c) k (c_tk c + 1) n := by simp only [writeA, cx_ce_nk, cx_ce_sz, cx_ce_tk, cx_ce_ce]
theorem wx_sz (k n : Nat) (c : CS) : c_sz (writeA k n c) = c_sz c + 1 := by simp only [writeA, cx_sz_nk, cx_sz_sz]
theorem wx_tk (k n : Nat) (c : CS) : c_tk (writeA k n c) = c_tk c + (n + 1) := by simp only [writeA, cx_tk_nk, cx_tk_sz, cx_tk_tk]
theorem wx_nk (k n : Nat) (c : CS) : c_nk (writeA k n c) = true := by simp only [writeA, cx_nk_nk]
theorem wx_xo (k n : Nat) (c : CS) : c_xo (writeA k n c) = c_xo c := by simp only [writeA, cx_xo_nk, cx_xo_sz, cx_xo_tk, cx_xo_ce, cx_xo_sc, cx_xo_co, cx_xo_fi]
theorem CB_write {k n : Nat} {c : CS} (hB : CB c) (h : c_sz c < 20) : CB (writeA k n c) := by
  refine ⟨?_, ?_, ?_⟩
  · rw [wx_sz]; exact h
  · intro _; rw [wx_sz]; exact Nat.le_add_left 1 _
  · rw [wx_au]; exact hB.2.2
section CP
variable {p : Program} {l : Launch} {e : Env} {R : Room} {s : State} {m : MethodId} {args : Array Value} {below : List Frame} {meth : Method} {c0 : Code} {H : Heap} {locs : List Loc} {cells slots : Nat} {Q : State → Prop}
variable {cc : ByteArray} {pc : Nat} {ls : Array Slot} {rest : List Value} {D : va_G} {A : Nat → Prop} {own : String} {index : Nat} {a : Nat → Nat} {y : Nat → ClassId} {t : va_W} {c : CS}
theorem cy_S_ce {sp dp n : Nat} (hx : p.tables.exec = Jvm.exec) (hb : c0.code = cc) (hml : c0.maxLocals = ls.size) (hown : s.vm.findClass own = some m.cls) (hlink : (Cond.methodLink own index arraycopyName).before args s = true) (hnat : (Cond.native arraycopyName).before args s = true) (hstat : (Cond.static arraycopyName).before args s = true) (hini : (Cond.initialized "java/lang/System").before args s = true)
    (hK : va_K D vwCl (tyA y) s) (hP : va_P D vwCl (wC a y c t) H) (hD : va_D A (wC a y c t)) (hS : va_S A s.heap H locs) (h4 : sp + n ≤ 32) (h5 : dp + n ≤ 40) (hframes : 1 ≤ R.frames) (hlocals : (rest.map fun v => v.category).sum + (nativeFrameWords "java/lang/System" "arraycopy" 5 + 11) ≤ R.locals) (d : decode cc pc = .ok (.invokestatic index, 3))
    (kk : ∀ (H1 : Heap) (locs1 : List Loc), va_P D vwCl (wC a y (cs_ce c (va_cpy (c_S c) (c_ce c) sp dp n)) t) H1 → va_D A (wC a y (cs_ce c (va_cpy (c_S c) (c_ce c) sp dp n)) t) → va_S A s.heap H1 locs1 → W p l e R s m args below meth c0 H1 locs1 cells slots Q (F0 m (pc + 3) ls rest)) : W p l e R s m args below meth c0 H locs cells slots Q (F0 m pc ls (.int (nI n) :: .int (nI dp) :: .ref (a 7) :: .int (nI sp) :: .ref (a 1) :: rest)) :=
  va_copyl hx hb hml hown hlink hnat hstat hini hK hP hD hS 1 7 1 1 rfl rfl rfl rfl rfl (nI_pos (by omega)) (nI_pos (by omega)) (nI_pos (by omega)) (by rw [nI_clamp (by omega), nI_clamp (by omega)]; exact h4) (by rw [nI_clamp (by omega), nI_clamp (by omega)]; exact h5) (fun i hi => rfl) hframes hlocals d (fun H1 l1 h1 h2 h3 => by
    rw [nI_clamp (n := sp) (by omega), nI_clamp (n := dp) (by omega), nI_clamp (n := n) (by omega)] at h1 h2
    exact kk H1 l1 h1 h2 h3)
theorem cy_K_S {sp dp n : Nat} (hx : p.tables.exec = Jvm.exec) (hb : c0.code = cc) (hml : c0.maxLocals = ls.size) (hown : s.vm.findClass own = some m.cls) (hlink : (Cond.methodLink own index arraycopyName).before args s = true) (hnat : (Cond.native arraycopyName).before args s = true) (hstat : (Cond.static arraycopyName).before args s = true) (hini : (Cond.initialized "java/lang/System").before args s = true)
    (hK : va_K D vwCl (tyA y) s) (hP : va_P D vwCl (wC a y c t) H) (hD : va_D A (wC a y c t)) (hS : va_S A s.heap H locs) (h4 : sp + n ≤ 32) (h5 : dp + n ≤ 32) (hframes : 1 ≤ R.frames) (hlocals : (rest.map fun v => v.category).sum + (nativeFrameWords "java/lang/System" "arraycopy" 5 + 11) ≤ R.locals) (d : decode cc pc = .ok (.invokestatic index, 3))
    (kk : ∀ (H1 : Heap) (locs1 : List Loc), va_P D vwCl (wC a y (cs_S c (va_cpy (c_K c) (c_S c) sp dp n)) t) H1 → va_D A (wC a y (cs_S c (va_cpy (c_K c) (c_S c) sp dp n)) t) → va_S A s.heap H1 locs1 → W p l e R s m args below meth c0 H1 locs1 cells slots Q (F0 m (pc + 3) ls rest)) : W p l e R s m args below meth c0 H locs cells slots Q (F0 m pc ls (.int (nI n) :: .int (nI dp) :: .ref (a 1) :: .int (nI sp) :: .ref (a 2) :: rest)) :=
  va_copyl hx hb hml hown hlink hnat hstat hini hK hP hD hS 2 1 1 1 rfl rfl rfl rfl rfl (nI_pos (by omega)) (nI_pos (by omega)) (nI_pos (by omega)) (by rw [nI_clamp (by omega), nI_clamp (by omega)]; exact h4) (by rw [nI_clamp (by omega), nI_clamp (by omega)]; exact h5) (fun i hi => rfl) hframes hlocals d (fun H1 l1 h1 h2 h3 => by
    rw [nI_clamp (n := sp) (by omega), nI_clamp (n := dp) (by omega), nI_clamp (n := n) (by omega)] at h1 h2
    exact kk H1 l1 h1 h2 h3)
end CP
