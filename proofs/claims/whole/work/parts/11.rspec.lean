/-! ===== what the reference's methods do to its state ===== -/
def isV (a : Int32) : Bool := !decide (a < 0) && !decide (nI 31 < a)
theorem isV_nat {a : Int32} (h : isV a = true) : ∃ k : Nat, a = nI k ∧ k < 32 := by
  simp only [isV, Bool.and_eq_true, Bool.not_eq_true', decide_eq_false_iff_not] at h
  obtain ⟨k, hk, rfl⟩ := nI_of h.1
  exact ⟨k, rfl, Nat.lt_succ_of_le (Nat.not_lt.mp (fun q => h.2 ((nI_ltI (by decide) hk).mpr q)))⟩
def listA (w o : Nat) (v : Int64) (r : RS) : RS := rs_ac (rs_wi (rs_on (rs_an r (upN (r_an r) (r_ac r) w)) (upN (r_on r) (r_ac r) o)) (vp_updL (r_wi r) (r_ac r) v)) (r_ac r + 1)
abbrev Act : Type := Nat × Nat × Int64
def listAll (xs : List Act) (r : RS) : RS := xs.foldl (fun r t => listA t.1 t.2.1 t.2.2 r) r
theorem la_snoc (xs : List Act) (w o : Nat) (v : Int64) (r : RS) : listA w o v (listAll xs r) = listAll (xs ++ [(w, o, v)]) r := by simp [listAll, List.foldl_append]
theorem la_app (xs ys : List Act) (r : RS) : listAll ys (listAll xs r) = listAll (xs ++ ys) r := by simp [listAll, List.foldl_append]
def keepR (r : RS) (n : Nat) : Nat → Int64 := fun j => if j < n ∧ r_fl r (j / 8) = true then r_S r j else r_K r j
theorem keepR_0 (r : RS) : keepR r 0 = r_K r := by funext j; simp [keepR]
theorem keepR_t {r : RS} {i : Nat} (h : r_fl r (i / 8) = true) : vp_updL (keepR r i) i (r_S r i) = keepR r (i + 1) := by
  funext j
  by_cases e : j = i
  · subst e; simp [vp_updL, keepR, h]
  · have q : j < i ↔ j < i + 1 := by omega
    simp [vp_updL, keepR, e, q]
theorem keepR_f {r : RS} {i : Nat} (h : r_fl r (i / 8) = false) : vp_updL (keepR r i) i (keepR r i i) = keepR r (i + 1) := by
  funext j
  by_cases e : j = i
  · subst e; simp [vp_updL, keepR, h]
  · have q : j < i ↔ j < i + 1 := by omega
    simp [vp_updL, keepR, e, q]
def keepF (r : RS) (n : Nat) : Nat → Int64 := fun j => if j < n ∧ hbL (r_mk r) j = true then r_S r j else r_K r j
theorem keepF_0 (r : RS) : keepF r 0 = r_K r := by funext j; simp [keepF]
theorem keepF_self (r : RS) (i : Nat) : keepF r i i = r_K r i := by simp [keepF]
theorem keepF_t {r : RS} {i : Nat} (h : hbL (r_mk r) i = true) : vp_updL (keepF r i) i (r_S r i) = keepF r (i + 1) := by
  funext j
  by_cases e : j = i
  · subst e; simp [vp_updL, keepF, h]
  · have q : j < i ↔ j < i + 1 := by omega
    simp [vp_updL, keepF, e, q]
theorem keepF_f {r : RS} {i : Nat} (h : hbL (r_mk r) i = false) : vp_updL (keepF r i) i (keepF r i i) = keepF r (i + 1) := by
  funext j
  by_cases e : j = i
  · subst e; simp [vp_updL, keepF, h]
  · have q : j < i ↔ j < i + 1 := by omega
    simp [vp_updL, keepF, e, q]
theorem keepF_e {r : RS} {i : Nat} (h : r_S r i = keepF r i i) : vp_updL (keepF r i) i (keepF r i i) = keepF r (i + 1) := by
  have h2 : r_S r i = r_K r i := by rw [h, keepF_self]
  funext j
  by_cases e : j = i
  · subst e; simp [vp_updL, keepF, h2]
  · have q : j < i ↔ j < i + 1 := by omega
    simp [vp_updL, keepF, e, q]
def clrB (f : Nat → Bool) (n : Nat) : Nat → Bool := fun j => if j < n then false else f j
theorem clrB_0 (f : Nat → Bool) : clrB f 0 = f := by funext j; simp [clrB]
theorem clrB_s (f : Nat → Bool) (i : Nat) : upB (clrB f i) i false = clrB f (i + 1) := by
  funext j
  by_cases e : j = i
  · subst e; simp [upB, clrB]
  · have q : j < i ↔ j < i + 1 := by omega
    simp [upB, clrB, e, q]
def setTo (f : Nat → Nat) (n v : Nat) : Nat → Nat := fun j => if j < n then v else f j
theorem setTo_0 (f : Nat → Nat) (v : Nat) : setTo f 0 v = f := by funext j; simp [setTo]
theorem setTo_s (f : Nat → Nat) (i v : Nat) : upN (setTo f i v) i v = setTo f (i + 1) v := by
  funext j
  by_cases e : j = i
  · subst e; simp [upN, setTo]
  · have q : j < i ↔ j < i + 1 := by omega
    simp [upN, setTo, e, q]
theorem cpy_0 (f g : Nat → Int64) (sp dp : Nat) : va_cpy f g sp dp 0 = g := by
  funext j
  have q : ¬ (dp ≤ j ∧ j < dp + 0) := by omega
  simp only [va_cpy, if_neg q]
theorem cpy_s (f g : Nat → Int64) (sp dp i : Nat) : vp_updL (va_cpy f g sp dp i) (dp + i) (f (sp + i)) = va_cpy f g sp dp (i + 1) := by
  funext j
  by_cases e : j = dp + i
  · subst e
    have q : dp ≤ dp + i ∧ dp + i < dp + (i + 1) := by omega
    simp only [vp_updL, va_cpy, if_pos q, if_true]
    congr 1
    omega
  · have q : (dp ≤ j ∧ j < dp + i) ↔ (dp ≤ j ∧ j < dp + (i + 1)) := by omega
    simp only [vp_updL, va_cpy, if_neg e, q]
theorem rss_K (c : RS) (x y : Nat → Int64) : rs_K (rs_K c x) y = rs_K c y := rfl
theorem rss_S (c : RS) (x y : Nat → Int64) : rs_S (rs_S c x) y = rs_S c y := rfl
theorem rss_fl (c : RS) (x y : Nat → Bool) : rs_fl (rs_fl c x) y = rs_fl c y := rfl
theorem rss_to (c : RS) (x y : Nat → Bool) : rs_to (rs_to c x) y = rs_to c y := rfl
theorem rss_st (c : RS) (x y : Nat → Nat) : rs_st (rs_st c x) y = rs_st c y := rfl
theorem rss_ol (c : RS) (x y : Nat → Int64) : rs_ol (rs_ol c x) y = rs_ol c y := rfl
def fenceR (r : RS) : RS := rs_fl (rs_K r (keepR r 32)) (clrB (r_fl r) 4)
def standR (h : Nat) (r : RS) : RS := rs_st r (setTo (r_st r) (r_rc r) h)
def meR (r : RS) : RS := rs_me r (r_me r + nI 1)
def oneR (w o : Nat) (v : Int64) (r : RS) : RS :=
  if w = 1 then rs_S (meR r) (vp_updL (r_S r) o v) else if w = 2 then rs_fl (meR r) (upB (r_fl r) o true) else if w = 3 then fenceR (meR r)
  else if w = 4 then rs_st (meR r) (upN (r_st r) (r_rc r - 1) 1) else if w = 5 then rs_st (fenceR (meR r)) (upN (r_st (fenceR (meR r))) (r_rc (fenceR (meR r)) - 1) 2)
  else if w = 6 then standR 3 (meR r) else if w = 7 then rs_rc (fenceR (meR r)) 0 else meR r
def recsR (r : RS) : RS :=
  if ¬ r_rc r = 0 ∧ (r_st r (r_rc r - 1) = 0 ∨ (r_st r (r_rc r - 1) = 1 ∧ hbL (r_mk r) 32 = false))
  then (if ¬ r_rc r - 1 = 0 ∧ r_st r 0 = 3 ∧ hbL (r_mk r) 33 = true then rs_rc (rs_rc r (r_rc r - 1)) 0 else rs_rc r (r_rc r - 1))
  else (if ¬ r_rc r = 0 ∧ r_st r 0 = 3 ∧ hbL (r_mk r) 33 = true then rs_rc r 0 else r)
def failB (r : RS) : RS := rs_fl (rs_op (rs_of (standR 2 r) true) false) (clrB (r_fl (standR 2 r)) 4)
def failR (r : RS) : RS := failB (recsR (rs_K r (keepF r 32)))
def endR (r : RS) : Bool × RS := if r_ar r = 0 then (true, r) else if r_ar r - 1 = 0 then (false, failR (rs_ar r (r_ar r - 1))) else (true, rs_ar r (r_ar r - 1))
def stepR (k : Nat) (r : RS) : Bool × RS := endR (oneR (r_an r k) (r_on r k) (r_wi r k) r)
def goR : Nat → Nat → RS → Bool × RS
  | 0, _, r => (true, r)
  | n + 1, k, r => if (stepR k r).1 = true then goR n (k + 1) (stepR k r).2 else (false, (stepR k r).2)
def goF (r : RS) : Bool × RS := goR (r_ac r) 0 r
theorem goR_t {n k : Nat} {r : RS} (hn : 0 < n) (h : (stepR k r).1 = true) : goR n k r = goR (n - 1) (k + 1) (stepR k r).2 := by
  obtain ⟨j, rfl⟩ : ∃ j, n = j + 1 := ⟨n - 1, by omega⟩
  show (if (stepR k r).1 = true then _ else _) = _
  rw [if_pos h]; rfl
theorem goR_f {n k : Nat} {r : RS} (hn : 0 < n) (h : (stepR k r).1 = false) : goR n k r = (false, (stepR k r).2) := by
  obtain ⟨j, rfl⟩ : ∃ j, n = j + 1 := ⟨n - 1, by omega⟩
  show (if (stepR k r).1 = true then _ else _) = _
  rw [if_neg (by rw [h]; decide)]
def takR (r : RS) : Nat → Nat
  | 0 => 0
  | k + 1 => takR r k + (r_ma r k + 1)
def covQ (r : RS) (k q : Nat) : Bool := decide (r_fi r q ≤ k) && decide (k < r_fi r q + r_ma r q)
def covR (r : RS) (k : Nat) : Bool := anyTo (covQ r k) (r_rc r)
def clrL (r : RS) : List Act := if r_rc r = 0 then [] else [(6, 0, 0), (0, 0, 0), (7, 0, 0)]
def snC (n k : Nat) : Nat := if k = n + 2 then 4 else if k = n + 4 then 5 else 0
def snL (n : Nat) : Nat → List Act
  | 0 => []
  | i + 1 => snL n i ++ [(snC n (i + 1), 0, 0)]
def tlL (f : Nat → Bool) : Nat → List Act
  | 0 => []
  | i + 1 => tlL f i ++ (if f i = true then [(2, i, 0)] else [])
def uiL (r : RS) (q : Nat) : Nat → List Act
  | 0 => []
  | i + 1 => uiL r q i ++ [(1, r_fi r q + i, r_ol r (r_fr r q + i))]
def uoL (r : RS) : Nat → List Act
  | 0 => []
  | p + 1 => uoL r p ++ uiL r (r_rc r - (p + 1)) (r_ma r (r_rc r - (p + 1)))
def hasL (r : RS) (l : Nat) : Bool := anyTo (fun b => covR r (8 * l + b)) 8
def undL (r : RS) : List Act := if r_rc r = 0 then [] else uoL r (r_rc r) ++ tlL (hasL r) 4 ++ [(3, 0, 0)] ++ clrL r
def undR (r : RS) : RS := listAll (undL r) (rs_ac r 0)
def comL (r : RS) : List Act := tlL (r_to r) 4 ++ (if tlL (r_to r) 4 = [] then [] else [(3, 0, 0)]) ++ clrL r
/-! the reference's public methods -/
def armR (n : Int32) (mk : Int64) (r : RS) : Bool × RS := if n < 0 then (false, r) else if nI 500 < n then (false, r) else (true, rs_mk (rs_ar r n.toNatClampNeg) mk)
def beginR (r : RS) : Int32 × RS := if r_of r = true then ((-1), r) else if r_op r = true then ((-1), r) else (nI 0, rs_to (rs_op r true) (clrB (r_to r) 4))
def snRec (k n : Nat) (r : RS) : RS := rs_ol (rs_st (rs_fr (rs_ma (rs_fi r (upN (r_fi r) (r_rc r) k)) (upN (r_ma r) (r_rc r) n)) (upN (r_fr r) (r_rc r) (takR r (r_rc r) - r_rc r))) (upN (r_st r) (r_rc r) 0)) (va_cpy (r_S r) (r_ol r) k (takR r (r_rc r) - r_rc r) n)
def snR (k n : Nat) (r : RS) : RS := listAll (snL n (n + 4)) (rs_ac (rs_rc (snRec k n r) (r_rc r + 1)) 0)
def goI (r : RS) : Int32 × RS := (bRes (goF r).1, (goF r).2)
def snapR (a n : Int32) (r : RS) : Int32 × RS := if r_op r = false then ((-1), r) else if n < nI 1 then ((-1), r) else if nI 8 < n then ((-1), r) else if isV a = false then ((-1), r) else if isV (a + n - nI 1) = false then ((-1), r) else if 40 < takR r (r_rc r) + n.toNatClampNeg + 1 then ((-1), r) else goI (snR a.toNatClampNeg n.toNatClampNeg r)
def stoR (k : Nat) (v : Int64) (r : RS) : RS := listA 1 k v (rs_ac (rs_to r (upB (r_to r) (k / 8) true)) 0)
def storeR (a : Int32) (v : Int64) (r : RS) : Int32 × RS := if r_op r = false then ((-1), r) else if isV a = false then ((-1), r) else if covR r a.toNatClampNeg = false then ((-1), r) else goI (stoR a.toNatClampNeg v r)
def commitR (r : RS) : Int32 × RS := if r_op r = false then ((-1), r) else goI (rs_op (listAll (comL r) (rs_ac r 0)) false)
def abortR (r : RS) : Int32 × RS := if r_op r = false then ((-1), r) else goI (rs_op (undR r) false)
def recR (r : RS) : RS := rs_S (rs_of r false) (va_cpy (r_K r) (r_S r) 0 0 32)
def recoverR (r : RS) : Int32 × RS := if r_of r = false then ((-1), r) else goI (undR (recR r))
def seenR (a : Int32) (r : RS) : Int64 := if r_of r = true then 0 else if isV a = false then 0 else r_S r a.toNatClampNeg
def keptR (a : Int32) (r : RS) : Int64 := if isV a = false then 0 else r_K r a.toNatClampNeg
/-! bits by an arithmetic shift -/
theorem wb_c : ∀ k, k < 64 → ((nI k).toInt64 &&& 63) = lN k := by decide +kernel
theorem wb_sm : ∀ k, k < 64 → ((lN k).toBitVec.smod 64) = BitVec.ofNat 64 k := by decide +kernel
theorem ts_sbit {w : Int64} {j : Nat} (hj : j < 64) : ((w >>> lN j) &&& 1) = 1 ↔ w.toBitVec.getLsbD j = true := by
  have e : (w >>> lN j).toBitVec = w.toBitVec.sshiftRight j := by
    rw [Int64.toBitVec_shiftRight, wb_sm j hj]
    show w.toBitVec.sshiftRight (BitVec.ofNat 64 j).toNat = _
    rw [BitVec.toNat_ofNat, Nat.mod_eq_of_lt (Nat.lt_of_lt_of_le hj (by decide))]
  have e0 : (w.toBitVec.sshiftRight j).getLsbD 0 = w.toBitVec.getLsbD j := by
    rw [BitVec.getLsbD_sshiftRight]
    simp [hj]
  rw [← Int64.toBitVec_inj, Int64.toBitVec_and, e]
  show w.toBitVec.sshiftRight j &&& 1#64 = 1#64 ↔ _
  constructor
  · intro h
    have t := congrArg (fun x => x.getLsbD 0) h
    simp only [BitVec.getLsbD_and, e0] at t
    simpa using t
  · intro h
    apply BitVec.eq_of_getLsbD_eq
    intro i hi
    rw [BitVec.getLsbD_and]
    cases i with
    | zero => rw [e0, h]; rfl
    | succ n => simp
theorem sb_cmp1 (x : Int64) {k : Nat} (hk : k < 64) : lg_cmp ((x >>> ((nI k).toInt64 &&& 63)) &&& 1) 1 = 0 ↔ hbL x k = true := by
  rw [lg_cmp_0, wb_c k hk]
  exact ts_sbit hk
theorem one_an (w o : Nat) (v : Int64) (r : RS) : r_an (oneR w o v r) = r_an r := by
  unfold oneR
  repeat' split
  all_goals simp only [standR, fenceR, meR, rx_an_S, rx_an_fl, rx_an_K, rx_an_st, rx_an_rc, rx_an_me]
theorem one_on (w o : Nat) (v : Int64) (r : RS) : r_on (oneR w o v r) = r_on r := by
  unfold oneR
  repeat' split
  all_goals simp only [standR, fenceR, meR, rx_on_S, rx_on_fl, rx_on_K, rx_on_st, rx_on_rc, rx_on_me]
theorem one_wi (w o : Nat) (v : Int64) (r : RS) : r_wi (oneR w o v r) = r_wi r := by
  unfold oneR
  repeat' split
  all_goals simp only [standR, fenceR, meR, rx_wi_S, rx_wi_fl, rx_wi_K, rx_wi_st, rx_wi_rc, rx_wi_me]
theorem one_ac (w o : Nat) (v : Int64) (r : RS) : r_ac (oneR w o v r) = r_ac r := by
  unfold oneR
  repeat' split
  all_goals simp only [standR, fenceR, meR, rx_ac_S, rx_ac_fl, rx_ac_K, rx_ac_st, rx_ac_rc, rx_ac_me]
theorem one_ar (w o : Nat) (v : Int64) (r : RS) : r_ar (oneR w o v r) = r_ar r := by
  unfold oneR
  repeat' split
  all_goals simp only [standR, fenceR, meR, rx_ar_S, rx_ar_fl, rx_ar_K, rx_ar_st, rx_ar_rc, rx_ar_me]
theorem one_mk (w o : Nat) (v : Int64) (r : RS) : r_mk (oneR w o v r) = r_mk r := by
  unfold oneR
  repeat' split
  all_goals simp only [standR, fenceR, meR, rx_mk_S, rx_mk_fl, rx_mk_K, rx_mk_st, rx_mk_rc, rx_mk_me]
theorem one_fi (w o : Nat) (v : Int64) (r : RS) : r_fi (oneR w o v r) = r_fi r := by
  unfold oneR
  repeat' split
  all_goals simp only [standR, fenceR, meR, rx_fi_S, rx_fi_fl, rx_fi_K, rx_fi_st, rx_fi_rc, rx_fi_me]
theorem one_ma (w o : Nat) (v : Int64) (r : RS) : r_ma (oneR w o v r) = r_ma r := by
  unfold oneR
  repeat' split
  all_goals simp only [standR, fenceR, meR, rx_ma_S, rx_ma_fl, rx_ma_K, rx_ma_st, rx_ma_rc, rx_ma_me]
theorem one_fr (w o : Nat) (v : Int64) (r : RS) : r_fr (oneR w o v r) = r_fr r := by
  unfold oneR
  repeat' split
  all_goals simp only [standR, fenceR, meR, rx_fr_S, rx_fr_fl, rx_fr_K, rx_fr_st, rx_fr_rc, rx_fr_me]
theorem one_ol (w o : Nat) (v : Int64) (r : RS) : r_ol (oneR w o v r) = r_ol r := by
  unfold oneR
  repeat' split
  all_goals simp only [standR, fenceR, meR, rx_ol_S, rx_ol_fl, rx_ol_K, rx_ol_st, rx_ol_rc, rx_ol_me]
theorem one_of (w o : Nat) (v : Int64) (r : RS) : r_of (oneR w o v r) = r_of r := by
  unfold oneR
  repeat' split
  all_goals simp only [standR, fenceR, meR, rx_of_S, rx_of_fl, rx_of_K, rx_of_st, rx_of_rc, rx_of_me]
theorem one_op (w o : Nat) (v : Int64) (r : RS) : r_op (oneR w o v r) = r_op r := by
  unfold oneR
  repeat' split
  all_goals simp only [standR, fenceR, meR, rx_op_S, rx_op_fl, rx_op_K, rx_op_st, rx_op_rc, rx_op_me]
theorem one_to (w o : Nat) (v : Int64) (r : RS) : r_to (oneR w o v r) = r_to r := by
  unfold oneR
  repeat' split
  all_goals simp only [standR, fenceR, meR, rx_to_S, rx_to_fl, rx_to_K, rx_to_st, rx_to_rc, rx_to_me]
theorem one_rc (w o : Nat) (v : Int64) (r : RS) : r_rc (oneR w o v r) = if w = 7 then 0 else r_rc r := by
  unfold oneR
  by_cases h : w = 7
  · subst h; simp [rx_rc_rc]
  · rw [if_neg h]
    repeat' split
    all_goals first | (simp only [standR, fenceR, meR, rx_rc_S, rx_rc_fl, rx_rc_K, rx_rc_st, rx_rc_me]; done) | (exfalso; omega)
theorem one_st3 (w o : Nat) (v : Int64) (r : RS) (h : ∀ j, r_st r j ≤ 3) : ∀ j, r_st (oneR w o v r) j ≤ 3 := by
  intro j
  unfold oneR
  repeat' split
  all_goals simp only [standR, fenceR, meR, rx_st_S, rx_st_fl, rx_st_K, rx_st_st, rx_st_rc, rx_st_me, upN, setTo]
  all_goals first | exact h j | (split <;> first | exact h j | omega)
def AOK (r : RS) : Prop := r_ac r ≤ 64 ∧ r_rc r ≤ 20 ∧ r_ar r ≤ 500 ∧ (∀ j, r_st r j ≤ 3) ∧ (∀ j, j < r_ac r → r_an r j ≤ 7 ∧ (r_an r j = 1 → r_on r j < 32) ∧ (r_an r j = 2 → r_on r j < 4)) ∧ ((1 ≤ r_rc r ∧ ∀ j, j < r_ac r → r_an r j ≠ 7) ∨ ∀ j, j < r_ac r → r_an r j ≠ 4 ∧ r_an r j ≠ 5)
theorem AOK_one {r : RS} {k : Nat} (h : AOK r) (hk : k < r_ac r) : AOK (oneR (r_an r k) (r_on r k) (r_wi r k) r) := by
  obtain ⟨h1, h2, h3, h4, h5, h6⟩ := h
  refine ⟨by rw [one_ac]; exact h1, ?_, by rw [one_ar]; exact h3, one_st3 _ _ _ _ h4, ?_, ?_⟩
  · rw [one_rc]; split <;> omega
  · rw [one_ac, one_an, one_on]; exact h5
  · rw [one_ac, one_an, one_rc]
    rcases h6 with ⟨a, b⟩ | b
    · exact Or.inl ⟨by rw [if_neg (b k hk)]; exact a, b⟩
    · exact Or.inr b
theorem AOK_end {r : RS} (h : AOK r) (v : Nat) (hv : v ≤ 500) : AOK (rs_ar r v) := ⟨h.1, h.2.1, hv, h.2.2.2⟩
theorem la_f_ac : ∀ (xs : List Act) (r : RS), r_ac (listAll xs r) = r_ac r + xs.length := by
  intro xs
  induction xs with
  | nil => intro r; rfl
  | cons x xs ih =>
    intro r
    show r_ac (listAll xs (listA x.1 x.2.1 x.2.2 r)) = _
    rw [ih, List.length_cons]
    have e : r_ac (listA x.1 x.2.1 x.2.2 r) = r_ac r + 1 := by simp only [listA, rx_ac_ac]
    omega
theorem la_f_S : ∀ (xs : List Act) (r : RS), r_S (listAll xs r) = r_S r := by
  intro xs
  induction xs with
  | nil => intro r; rfl
  | cons x xs ih =>
    intro r
    show r_S (listAll xs (listA x.1 x.2.1 x.2.2 r)) = _
    rw [ih]
    simp only [listA, rx_S_an, rx_S_on, rx_S_wi, rx_S_ac]
theorem la_f_K : ∀ (xs : List Act) (r : RS), r_K (listAll xs r) = r_K r := by
  intro xs
  induction xs with
  | nil => intro r; rfl
  | cons x xs ih =>
    intro r
    show r_K (listAll xs (listA x.1 x.2.1 x.2.2 r)) = _
    rw [ih]
    simp only [listA, rx_K_an, rx_K_on, rx_K_wi, rx_K_ac]
theorem la_f_fl : ∀ (xs : List Act) (r : RS), r_fl (listAll xs r) = r_fl r := by
  intro xs
  induction xs with
  | nil => intro r; rfl
  | cons x xs ih =>
    intro r
    show r_fl (listAll xs (listA x.1 x.2.1 x.2.2 r)) = _
    rw [ih]
    simp only [listA, rx_fl_an, rx_fl_on, rx_fl_wi, rx_fl_ac]
theorem la_f_rc : ∀ (xs : List Act) (r : RS), r_rc (listAll xs r) = r_rc r := by
  intro xs
  induction xs with
  | nil => intro r; rfl
  | cons x xs ih =>
    intro r
    show r_rc (listAll xs (listA x.1 x.2.1 x.2.2 r)) = _
    rw [ih]
    simp only [listA, rx_rc_an, rx_rc_on, rx_rc_wi, rx_rc_ac]
theorem la_f_fi : ∀ (xs : List Act) (r : RS), r_fi (listAll xs r) = r_fi r := by
  intro xs
  induction xs with
  | nil => intro r; rfl
  | cons x xs ih =>
    intro r
    show r_fi (listAll xs (listA x.1 x.2.1 x.2.2 r)) = _
    rw [ih]
    simp only [listA, rx_fi_an, rx_fi_on, rx_fi_wi, rx_fi_ac]
theorem la_f_ma : ∀ (xs : List Act) (r : RS), r_ma (listAll xs r) = r_ma r := by
  intro xs
  induction xs with
  | nil => intro r; rfl
  | cons x xs ih =>
    intro r
    show r_ma (listAll xs (listA x.1 x.2.1 x.2.2 r)) = _
    rw [ih]
    simp only [listA, rx_ma_an, rx_ma_on, rx_ma_wi, rx_ma_ac]
theorem la_f_fr : ∀ (xs : List Act) (r : RS), r_fr (listAll xs r) = r_fr r := by
  intro xs
  induction xs with
  | nil => intro r; rfl
  | cons x xs ih =>
    intro r
    show r_fr (listAll xs (listA x.1 x.2.1 x.2.2 r)) = _
    rw [ih]
    simp only [listA, rx_fr_an, rx_fr_on, rx_fr_wi, rx_fr_ac]
theorem la_f_st : ∀ (xs : List Act) (r : RS), r_st (listAll xs r) = r_st r := by
  intro xs
  induction xs with
  | nil => intro r; rfl
  | cons x xs ih =>
    intro r
    show r_st (listAll xs (listA x.1 x.2.1 x.2.2 r)) = _
    rw [ih]
    simp only [listA, rx_st_an, rx_st_on, rx_st_wi, rx_st_ac]
theorem la_f_ol : ∀ (xs : List Act) (r : RS), r_ol (listAll xs r) = r_ol r := by
  intro xs
  induction xs with
  | nil => intro r; rfl
  | cons x xs ih =>
    intro r
    show r_ol (listAll xs (listA x.1 x.2.1 x.2.2 r)) = _
    rw [ih]
    simp only [listA, rx_ol_an, rx_ol_on, rx_ol_wi, rx_ol_ac]
theorem la_f_of : ∀ (xs : List Act) (r : RS), r_of (listAll xs r) = r_of r := by
  intro xs
  induction xs with
  | nil => intro r; rfl
  | cons x xs ih =>
    intro r
    show r_of (listAll xs (listA x.1 x.2.1 x.2.2 r)) = _
    rw [ih]
    simp only [listA, rx_of_an, rx_of_on, rx_of_wi, rx_of_ac]
theorem la_f_op : ∀ (xs : List Act) (r : RS), r_op (listAll xs r) = r_op r := by
  intro xs
  induction xs with
  | nil => intro r; rfl
  | cons x xs ih =>
    intro r
    show r_op (listAll xs (listA x.1 x.2.1 x.2.2 r)) = _
    rw [ih]
    simp only [listA, rx_op_an, rx_op_on, rx_op_wi, rx_op_ac]
theorem la_f_to : ∀ (xs : List Act) (r : RS), r_to (listAll xs r) = r_to r := by
  intro xs
  induction xs with
  | nil => intro r; rfl
  | cons x xs ih =>
    intro r
    show r_to (listAll xs (listA x.1 x.2.1 x.2.2 r)) = _
    rw [ih]
    simp only [listA, rx_to_an, rx_to_on, rx_to_wi, rx_to_ac]
theorem la_f_ar : ∀ (xs : List Act) (r : RS), r_ar (listAll xs r) = r_ar r := by
  intro xs
  induction xs with
  | nil => intro r; rfl
  | cons x xs ih =>
    intro r
    show r_ar (listAll xs (listA x.1 x.2.1 x.2.2 r)) = _
    rw [ih]
    simp only [listA, rx_ar_an, rx_ar_on, rx_ar_wi, rx_ar_ac]
theorem la_f_mk : ∀ (xs : List Act) (r : RS), r_mk (listAll xs r) = r_mk r := by
  intro xs
  induction xs with
  | nil => intro r; rfl
  | cons x xs ih =>
    intro r
    show r_mk (listAll xs (listA x.1 x.2.1 x.2.2 r)) = _
    rw [ih]
    simp only [listA, rx_mk_an, rx_mk_on, rx_mk_wi, rx_mk_ac]
theorem la_f_me : ∀ (xs : List Act) (r : RS), r_me (listAll xs r) = r_me r := by
  intro xs
  induction xs with
  | nil => intro r; rfl
  | cons x xs ih =>
    intro r
    show r_me (listAll xs (listA x.1 x.2.1 x.2.2 r)) = _
    rw [ih]
    simp only [listA, rx_me_an, rx_me_on, rx_me_wi, rx_me_ac]
