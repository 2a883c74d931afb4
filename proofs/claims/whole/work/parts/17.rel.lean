/-! ===== both states say the same ===== -/
/-- values, power, lines, counters -/
def RC (m : Int32) (c : CS) (r : RS) : Prop := (∀ j, j < 32 → c_S c j = r_S r j) ∧ (∀ j, j < 32 → c_K c j = r_K r j) ∧ c_on c = !(r_of r) ∧ (∀ k, k < 4 → hbL (c_fl c).toInt64 k = r_fl r k) ∧ (∀ k, k < 4 → hbL (c_sl c).toInt64 k = r_to r k) ∧ (∀ k, 4 ≤ k → k < 64 → hbL (c_sl c).toInt64 k = false) ∧ c_au c = r_ar r ∧ c_au c ≤ 500 ∧ c_mk c = r_mk r ∧ c_ad c + m = r_me r
/-- a record: the same in both -/
def LQ (c : CS) (r : RS) (q : Nat) : Prop := c_fi c q = r_fi r q ∧ c_co c q = r_ma r q ∧ c_sc c q = takR r q ∧ r_fr r q = takR r q - q ∧ 1 ≤ r_ma r q ∧ r_ma r q ≤ 8 ∧ r_fi r q + r_ma r q ≤ 32 ∧ ∀ i, i < r_ma r q → c_ce c (takR r q + 1 + i) = r_ol r (takR r q - q + i)
def LG (n : Nat) (c : CS) (r : RS) : Prop := (∀ q, q < n → LQ c r q) ∧ n ≤ 20 ∧ takR r n ≤ 40
theorem takR_mono (r : RS) {a b : Nat} (h : a ≤ b) : takR r a ≤ takR r b := by
  induction b with
  | zero => have : a = 0 := by omega
            subst this; exact Nat.le_refl _
  | succ b ih =>
    by_cases e : a = b + 1
    · subst e; exact Nat.le_refl _
    · have := ih (by omega)
      simp only [takR]; omega
theorem takR_two {r : RS} {n : Nat} (h : ∀ q, q < n → 1 ≤ r_ma r q) : 2 * n ≤ takR r n := by
  induction n with
  | zero => exact Nat.le_refl _
  | succ n ih =>
    have := ih (fun q hq => h q (by omega))
    have := h n (by omega)
    simp only [takR]; omega
theorem LQ_congr {c c' : CS} {r r' : RS} (h1 : c_fi c' = c_fi c) (h2 : c_co c' = c_co c) (h3 : c_sc c' = c_sc c) (h4 : c_ce c' = c_ce c) (g1 : r_fi r' = r_fi r) (g2 : r_ma r' = r_ma r) (g3 : r_fr r' = r_fr r) (g4 : r_ol r' = r_ol r) {q : Nat} (h : LQ c r q) : LQ c' r' q := by
  unfold LQ
  rw [takR_congr g2, h1, h2, h3, h4, g1, g2, g3, g4]
  exact h
theorem LG_congr {n : Nat} {c c' : CS} {r r' : RS} (h1 : c_fi c' = c_fi c) (h2 : c_co c' = c_co c) (h3 : c_sc c' = c_sc c) (h4 : c_ce c' = c_ce c) (g1 : r_fi r' = r_fi r) (g2 : r_ma r' = r_ma r) (g3 : r_fr r' = r_fr r) (g4 : r_ol r' = r_ol r) (h : LG n c r) : LG n c' r' :=
  ⟨fun q hq => LQ_congr h1 h2 h3 h4 g1 g2 g3 g4 (h.1 q hq), h.2.1, by rw [takR_congr g2]; exact h.2.2⟩
theorem LG_less {n k : Nat} {c : CS} {r : RS} (hk : k ≤ n) (h : LG n c r) : LG k c r := ⟨fun q hq => h.1 q (by omega), by have := h.2.1; omega, Nat.le_trans (takR_mono r hk) h.2.2⟩
/-- the four ways in which the two logs stand beside each other -/
def RN (m : Int32) (c : CS) (r : RS) : Prop := RC m c r ∧ LG (r_rc r) c r ∧ c_sz c = r_rc r ∧ c_tk c = takR r (r_rc r) ∧ c_nk c = false ∧ c_xo c = false ∧ (∀ q, q < r_rc r → r_st r q = 2) ∧ ∀ j, r_st r j ≤ 3
def RX (m : Int32) (c : CS) (r : RS) : Prop := RC m c r ∧ LG (r_rc r) c r ∧ c_sz c = r_rc r ∧ c_tk c = takR r (r_rc r) ∧ c_nk c = false ∧ c_xo c = true ∧ (1 ≤ r_rc r ∧ ∀ q, q < r_rc r → r_st r q = 3) ∧ ∀ j, r_st r j ≤ 3
def RW (m : Int32) (c : CS) (r : RS) : Prop := RC m c r ∧ LG (r_rc r) c r ∧ c_sz c = r_rc r ∧ c_tk c = takR r (r_rc r) ∧ c_nk c = true ∧ c_xo c = false ∧ (1 ≤ r_rc r ∧ r_st r (r_rc r - 1) = 1 ∧ ∀ q, q < r_rc r - 1 → r_st r q = 2) ∧ ∀ j, r_st r j ≤ 3
def RQ (k n : Nat) (m : Int32) (c : CS) (r : RS) : Prop := RC m c r ∧ LG (c_sz c) c r ∧ r_rc r = c_sz c + 1 ∧ c_tk c = takR r (c_sz c) ∧ c_nk c = false ∧ c_xo c = false ∧ (r_st r (c_sz c) = 0 ∧ ∀ q, q < c_sz c → r_st r q = 2) ∧ (∀ j, r_st r j ≤ 3) ∧ (r_fi r (c_sz c) = k ∧ r_ma r (c_sz c) = n ∧ r_fr r (c_sz c) = takR r (c_sz c) - c_sz c) ∧ (1 ≤ n ∧ n ≤ 8 ∧ k + n ≤ 32 ∧ takR r (c_sz c) + n + 1 ≤ 40 ∧ c_sz c < 20) ∧ ∀ i, i < n → r_ol r (takR r (c_sz c) - c_sz c + i) = r_S r (k + i)
/-! what a loss of power leaves -/
theorem hb_0 (k : Nat) : hbL (nI 0).toInt64 k = false := by
  unfold hbL
  have e : (nI 0).toInt64 = 0 := by decide
  rw [e]
  show (0#64).getLsbD k = false
  simp
theorem RC_lose {m : Int32} {c : CS} {r : RS} (h : RC m c r) : RC m (loseF c) (failR r) := by
  obtain ⟨h1, h2, h3, h4, h5, h6, h7, h8, h9, h10⟩ := h
  refine ⟨?_, ?_, ?_, ?_, ?_, ?_, ?_, ?_, ?_, ?_⟩
  · rw [lo_S, fa_S]; exact h1
  · intro j hj
    rw [lo_K, fa_K]
    simp only [keepM, keepF, h9, h1 j hj, h2 j hj]
  · rw [lo_on, fa_of]; rfl
  · intro k hk
    rw [lo_fl, fa_fl, hb_0]
    simp [clrB, hk]
  · rw [lo_sl, fa_to]; exact h5
  · rw [lo_sl]; exact h6
  · rw [lo_au, fa_ar]; exact h7
  · rw [lo_au]; exact h8
  · rw [lo_mk, fa_mk]; exact h9
  · rw [lo_ad, fa_me]; exact h10
theorem LG_lose {n : Nat} {c : CS} {r : RS} (h : LG n c r) : LG n (loseF c) (failR r) :=
  LG_congr (lo_fi c) (lo_co c) (lo_sc c) (lo_ce c) (fa_fi r) (fa_ma r) (fa_fr r) (fa_ol r) h
theorem fa_st2 {r : RS} {q : Nat} (h : q < r_rc (failR r)) : r_st (failR r) q = 2 := by
  rw [fa_rc] at h
  rw [fa_st]
  simp [setTo, h]
theorem fa_st3 {r : RS} (h : ∀ j, r_st r j ≤ 3) (j : Nat) : r_st (failR r) j ≤ 3 := by
  rw [fa_st]
  unfold setTo
  split
  · omega
  · exact h j
/-- from what is left of the counts the rest follows -/
theorem RN_lose {m : Int32} {c : CS} {r : RS} {n : Nat} (hC : RC m c r) (hL : LG n c r) (e1 : r_rc (failR r) = n) (e2 : c_sz (loseF c) = n) (e3 : c_tk (loseF c) = takR r n) (h3 : ∀ j, r_st r j ≤ 3) : RN m (loseF c) (failR r) := by
  refine ⟨RC_lose hC, ?_, by rw [e1, e2], ?_, lo_nk c, lo_xo c, fun q hq => fa_st2 hq, fa_st3 h3⟩
  · rw [e1]; exact LG_lose hL
  · rw [e1, e3, takR_congr (fa_ma r)]
theorem rr_rcK (r : RS) : r_rc (failR r) = if ¬ r_rc r = 0 ∧ (r_st r (r_rc r - 1) = 0 ∨ (r_st r (r_rc r - 1) = 1 ∧ hbL (r_mk r) 32 = false)) then (if ¬ r_rc r - 1 = 0 ∧ r_st r 0 = 3 ∧ hbL (r_mk r) 33 = true then 0 else r_rc r - 1) else (if ¬ r_rc r = 0 ∧ r_st r 0 = 3 ∧ hbL (r_mk r) 33 = true then 0 else r_rc r) := by
  rw [fa_rc, rr_rc]; rfl
theorem lose_N {m : Int32} {c : CS} {r : RS} (h : RN m c r) : RN m (loseF c) (failR r) := by
  obtain ⟨hC, hL, h1, h2, h3, h4, h5, h6⟩ := h
  refine RN_lose (n := r_rc r) hC hL ?_ ?_ ?_ h6
  · rw [rr_rcK]
    by_cases z : r_rc r = 0
    · rw [if_neg (fun q => q.1 z), if_neg (fun q => q.1 z)]
    · have s1 := h5 (r_rc r - 1) (by omega)
      have s0 := h5 0 (by omega)
      rw [if_neg (fun q => by omega), if_neg (fun q => by omega)]
  · rw [lo_sz, if_neg (fun q => by rw [h4] at q; cases q.1), if_neg (fun q => by rw [h3] at q; cases q.1)]; exact h1
  · rw [lo_tk, if_neg (fun q => by rw [h4] at q; cases q.1), if_neg (fun q => by rw [h3] at q; cases q.1)]; exact h2
theorem lose_X {m : Int32} {c : CS} {r : RS} (h : RX m c r) : RN m (loseF c) (failR r) := by
  obtain ⟨hC, hL, h1, h2, h3, h4, ⟨h5, h5b⟩, h6⟩ := h
  have s1 := h5b (r_rc r - 1) (by omega)
  have s0 := h5b 0 (by omega)
  have hmk : c_mk c = r_mk r := hC.2.2.2.2.2.2.2.2.1
  by_cases b : hbL (r_mk r) 33 = true
  · refine RN_lose (n := 0) hC (LG_less (Nat.zero_le _) hL) ?_ ?_ ?_ h6
    · rw [rr_rcK, if_neg (fun q => by omega), if_pos ⟨by omega, s0, b⟩]
    · rw [lo_sz, hmk, if_pos ⟨h4, b⟩]
    · rw [lo_tk, hmk, if_pos ⟨h4, b⟩]; rfl
  · refine RN_lose (n := r_rc r) hC hL ?_ ?_ ?_ h6
    · rw [rr_rcK, if_neg (fun q => by omega), if_neg (fun q => b q.2.2)]
    · rw [lo_sz, hmk, if_neg (fun q => b q.2), if_neg (fun q => by rw [h3] at q; cases q.1)]; exact h1
    · rw [lo_tk, hmk, if_neg (fun q => b q.2), if_neg (fun q => by rw [h3] at q; cases q.1)]; exact h2
theorem lose_W {m : Int32} {c : CS} {r : RS} (h : RW m c r) : RN m (loseF c) (failR r) := by
  obtain ⟨hC, hL, h1, h2, h3, h4, ⟨h5, h5b, h5c⟩, h6⟩ := h
  have hmk : c_mk c = r_mk r := hC.2.2.2.2.2.2.2.2.1
  by_cases b : hbL (r_mk r) 32 = false
  · refine RN_lose (n := r_rc r - 1) hC (LG_less (by omega) hL) ?_ ?_ ?_ h6
    · rw [rr_rcK, if_pos ⟨by omega, Or.inr ⟨h5b, b⟩⟩, if_neg (fun q => ?_)]
      have s0 := h5c 0 (by omega)
      omega
    · rw [lo_sz, hmk, if_neg (fun q => by rw [h4] at q; cases q.1), if_pos ⟨h3, b⟩, h1]
    · rw [lo_tk, hmk, if_neg (fun q => by rw [h4] at q; cases q.1), if_pos ⟨h3, b⟩, h1]
      exact (hL.1 (r_rc r - 1) (by omega)).2.2.1
  · refine RN_lose (n := r_rc r) hC hL ?_ ?_ ?_ h6
    · rw [rr_rcK, if_neg (fun q => q.2.elim (fun z => by omega) (fun z => b z.2)), if_neg (fun q => ?_)]
      by_cases z : r_rc r - 1 = 0
      · rw [z] at h5b; omega
      · have s0 := h5c 0 (by omega)
        omega
    · rw [lo_sz, hmk, if_neg (fun q => by rw [h4] at q; cases q.1), if_neg (fun q => b q.2)]; exact h1
    · rw [lo_tk, hmk, if_neg (fun q => by rw [h4] at q; cases q.1), if_neg (fun q => b q.2)]; exact h2
theorem lose_Q {k n : Nat} {m : Int32} {c : CS} {r : RS} (h : RQ k n m c r) : RN m (loseF c) (failR r) := by
  obtain ⟨hC, hL, h1, h2, h3, h4, ⟨h5, h5b⟩, h6, -⟩ := h
  refine RN_lose (n := c_sz c) hC hL ?_ ?_ ?_ h6
  · rw [rr_rcK, h1]
    rw [if_pos ⟨by omega, Or.inl (by rw [show c_sz c + 1 - 1 = c_sz c by omega]; exact h5)⟩, if_neg (fun q => ?_)]
    · omega
    · have s0 := h5b 0 (by omega)
      omega
  · rw [lo_sz, if_neg (fun q => by rw [h4] at q; cases q.1), if_neg (fun q => by rw [h3] at q; cases q.1)]
  · rw [lo_tk, if_neg (fun q => by rw [h4] at q; cases q.1), if_neg (fun q => by rw [h3] at q; cases q.1)]; exact h2
/-! an act's end -/
theorem RC_ad {c : CS} {r : RS} {v : Nat} (h : RC (nI 1) c r) (hv : v ≤ 500) : RC (nI 0) (cs_au (cs_ad c (c_ad c + nI 1)) v) (rs_ar r v) := by
  obtain ⟨h1, h2, h3, h4, h5, h6, h7, h8, h9, h10⟩ := h
  exact ⟨h1, h2, h3, h4, h5, h6, rfl, hv, h9, by show c_ad c + nI 1 + nI 0 = r_me r; rw [h10, nI_0, Int32.add_zero]⟩
theorem LG_ad {n v : Nat} {x : Int32} {c : CS} {r : RS} (h : LG n c r) : LG n (cs_au (cs_ad c x) v) (rs_ar r v) := LG_congr (c := c) (c' := cs_au (cs_ad c x) v) (r := r) (r' := rs_ar r v) rfl rfl rfl rfl rfl rfl rfl rfl h
theorem tak_ar (r : RS) (v n : Nat) : takR (rs_ar r v) n = takR r n := takR_congr (r := r) (r' := rs_ar r v) rfl n
theorem end_gen {P : Int32 → CS → RS → Prop} (hP : ∀ m c r, P m c r → RC m c r) (step : ∀ c r v, P (nI 1) c r → v ≤ 500 → P (nI 0) (cs_au (cs_ad c (c_ad c + nI 1)) v) (rs_ar r v)) (lose : ∀ c r, P (nI 0) c r → RN (nI 0) (loseF c) (failR r)) {c : CS} {r : RS} (h : P (nI 1) c r) :
    (endActF c).1 = (endR r).1 ∧ ((endActF c).1 = true → P (nI 0) (endActF c).2 (endR r).2) ∧ ((endActF c).1 = false → RN (nI 0) (endActF c).2 (endR r).2) := by
  have e := (hP _ _ _ h).2.2.2.2.2.2.1
  have e5 := (hP _ _ _ h).2.2.2.2.2.2.2.1
  by_cases z : c_au c = 0
  · have a1 : endActF c = (true, cs_ad c (c_ad c + nI 1)) := by unfold endActF; rw [if_pos z]
    have a2 : endR r = (true, r) := by unfold endR; rw [if_pos (e.symm.trans z)]
    rw [a1, a2]
    refine ⟨rfl, fun _ => ?_, fun q => (by cases q)⟩
    have q := step c r (c_au c) h e5
    have q2 : rs_ar r (c_au c) = r := by rw [e]; rfl
    rw [q2] at q
    exact q
  · have zr : ¬ r_ar r = 0 := fun q => z (e.trans q)
    by_cases z1 : c_au c - 1 = 0
    · have a1 : endActF c = (false, loseF (cs_au (cs_ad c (c_ad c + nI 1)) (c_au c - 1))) := by unfold endActF; rw [if_neg z, if_pos z1]
      have a2 : endR r = (false, failR (rs_ar r (c_au c - 1))) := by unfold endR; rw [if_neg zr, ← e, if_pos z1]
      rw [a1, a2]
      exact ⟨rfl, fun q => (by cases q), fun _ => lose _ _ (step c r (c_au c - 1) h (by omega))⟩
    · have a1 : endActF c = (true, cs_au (cs_ad c (c_ad c + nI 1)) (c_au c - 1)) := by unfold endActF; rw [if_neg z, if_neg z1]
      have a2 : endR r = (true, rs_ar r (c_au c - 1)) := by unfold endR; rw [if_neg zr, ← e, if_neg z1]
      rw [a1, a2]
      exact ⟨rfl, fun _ => step c r (c_au c - 1) h (by omega), fun q => (by cases q)⟩
theorem end_N {c : CS} {r : RS} (h : RN (nI 1) c r) : (endActF c).1 = (endR r).1 ∧ RN (nI 0) (endActF c).2 (endR r).2 := by
  have q := end_gen (P := RN) (fun m c r h => h.1) (fun c r v h hv => ⟨RC_ad h.1 hv, LG_ad h.2.1, h.2.2.1, h.2.2.2.1.trans (tak_ar r v _).symm, h.2.2.2.2⟩) (fun c r h => lose_N h) h
  refine ⟨q.1, ?_⟩
  cases z : (endActF c).1 with
  | true => exact q.2.1 z
  | false => exact q.2.2 z
theorem end_X {c : CS} {r : RS} (h : RX (nI 1) c r) : (endActF c).1 = (endR r).1 ∧ ((endActF c).1 = true → RX (nI 0) (endActF c).2 (endR r).2) ∧ ((endActF c).1 = false → RN (nI 0) (endActF c).2 (endR r).2) :=
  end_gen (P := RX) (fun m c r h => h.1) (fun c r v h hv => ⟨RC_ad h.1 hv, LG_ad h.2.1, h.2.2.1, h.2.2.2.1.trans (tak_ar r v _).symm, h.2.2.2.2⟩) (fun c r h => lose_X h) h
theorem end_W {c : CS} {r : RS} (h : RW (nI 1) c r) : (endActF c).1 = (endR r).1 ∧ ((endActF c).1 = true → RW (nI 0) (endActF c).2 (endR r).2) ∧ ((endActF c).1 = false → RN (nI 0) (endActF c).2 (endR r).2) :=
  end_gen (P := RW) (fun m c r h => h.1) (fun c r v h hv => ⟨RC_ad h.1 hv, LG_ad h.2.1, h.2.2.1, h.2.2.2.1.trans (tak_ar r v _).symm, h.2.2.2.2⟩) (fun c r h => lose_W h) h
theorem end_Q {k n : Nat} {c : CS} {r : RS} (h : RQ k n (nI 1) c r) : (endActF c).1 = (endR r).1 ∧ ((endActF c).1 = true → RQ k n (nI 0) (endActF c).2 (endR r).2) ∧ ((endActF c).1 = false → RN (nI 0) (endActF c).2 (endR r).2) := by
  refine end_gen (P := RQ k n) (fun m c r h => h.1) (fun c r v h hv => ?_) (fun c r h => lose_Q h) h
  obtain ⟨hC, hL, h1, h2, h3, h4, h5, h6, h7, h8, h9⟩ := h
  have e := takR_congr (r := r) (r' := rs_ar r v) rfl
  refine ⟨RC_ad hC hv, LG_ad hL, h1, h2.trans (e _).symm, h3, h4, h5, h6, ⟨h7.1, h7.2.1, ?_⟩, ⟨h8.1, h8.2.1, h8.2.2.1, ?_, h8.2.2.2.2⟩, ?_⟩
  · rw [e]; exact h7.2.2
  · rw [e]; exact h8.2.2.2.1
  · intro i hi; rw [e]; exact h9 i hi
