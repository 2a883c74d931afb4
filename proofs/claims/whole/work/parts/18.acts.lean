/-! ===== each act, in both states ===== -/
theorem one_me (w o : Nat) (v : Int64) (r : RS) : r_me (oneR w o v r) = r_me r + nI 1 := by
  unfold oneR
  repeat' split
  all_goals simp only [standR, fenceR, meR, rx_me_S, rx_me_fl, rx_me_K, rx_me_st, rx_me_rc, rx_me_me]
theorem one_st {w : Nat} (o : Nat) (v : Int64) (r : RS) (h4 : w ≠ 4) (h5 : w ≠ 5) (h6 : w ≠ 6) : r_st (oneR w o v r) = r_st r := by
  unfold oneR
  rw [if_neg h4, if_neg h5, if_neg h6]
  repeat' split
  all_goals simp only [fenceR, meR, rx_st_S, rx_st_fl, rx_st_K, rx_st_rc, rx_st_me]
theorem nf_sh4 : ∀ k, k < 4 → ((nI 1) <<< (nI k &&& 31)).toBitVec = BitVec.twoPow 32 k := by decide +kernel
theorem hb_or {x : Int32} {k j : Nat} (hk : k < 4) (hj : j < 64) : hbL (x ||| (nI 1 <<< (nI k &&& 31))).toInt64 j = (hbL x.toInt64 j || decide (j = k)) := by
  unfold hbL
  rw [Int32.toBitVec_toInt64, Int32.toBitVec_toInt64, Int32.toBitVec_or, nf_sh4 k hk]
  have m : (BitVec.twoPow 32 k).msb = false := by
    rw [BitVec.msb_eq_getLsbD_last, BitVec.getLsbD_twoPow]
    have : ¬ k = 31 := by omega
    simp [this]
  rw [BitVec.getLsbD_signExtend, BitVec.getLsbD_signExtend, BitVec.getLsbD_or, BitVec.msb_or, m, BitVec.getLsbD_twoPow]
  by_cases h : j < 32
  · simp only [h, hj, decide_true, Bool.true_and, if_true]
    have e : (decide (k < 32) && decide (k = j)) = decide (j = k) := by
      have : k < 32 := by omega
      simp only [this, decide_true, Bool.true_and]
      by_cases q : j = k
      · simp [q]
      · have : ¬ k = j := fun z => q z.symm
        simp [q, this]
    rw [e]
  · have q : ¬ j = k := by omega
    simp [h, q]
theorem hb_zero {x : Int32} (h : ∀ j, j < 64 → hbL x.toInt64 j = false) : x = 0 := by
  apply Int32.toBitVec_inj.mp
  apply BitVec.eq_of_getLsbD_eq
  intro i hi
  have q := h i (by omega)
  unfold hbL at q
  rw [Int32.toBitVec_toInt64, BitVec.getLsbD_signExtend] at q
  have h64 : i < 64 := by omega
  simp only [hi, h64, decide_true, Bool.true_and, if_true] at q
  rw [q]
  show false = (0#32).getLsbD i
  simp
theorem RC_act {w o : Nat} {v : Int64} {c c' : CS} {r : RS} (h : RC (nI 0) c r) (a1 : c_on c' = c_on c) (a2 : c_sl c' = c_sl c) (a3 : c_au c' = c_au c) (a4 : c_mk c' = c_mk c) (a5 : c_ad c' = c_ad c) (hS : ∀ j, j < 32 → c_S c' j = r_S (oneR w o v r) j) (hK : ∀ j, j < 32 → c_K c' j = r_K (oneR w o v r) j) (hf : ∀ k, k < 4 → hbL (c_fl c').toInt64 k = r_fl (oneR w o v r) k) : RC (nI 1) c' (oneR w o v r) := by
  obtain ⟨h1, h2, h3, h4, h5, h6, h7, h8, h9, h10⟩ := h
  refine ⟨hS, hK, ?_, hf, ?_, ?_, ?_, ?_, ?_, ?_⟩
  · rw [a1, one_of]; exact h3
  · rw [a2, one_to]; exact h5
  · rw [a2]; exact h6
  · rw [a3, one_ar]; exact h7
  · rw [a3]; exact h8
  · rw [a4, one_mk]; exact h9
  · rw [a5, one_me, ← h10, nI_0, Int32.add_zero]
theorem RC_plain {o : Nat} {v : Int64} {c : CS} {r : RS} (h : RC (nI 0) c r) : RC (nI 1) c (oneR 0 o v r) :=
  RC_act h rfl rfl rfl rfl rfl (fun j hj => h.1 j hj) (fun j hj => h.2.1 j hj) (fun k hk => h.2.2.2.1 k hk)
theorem RC_store {o : Nat} {v : Int64} {c : CS} {r : RS} (h : RC (nI 0) c r) : RC (nI 1) (storeA o v c) (oneR 1 o v r) := by
  refine RC_act h rfl rfl rfl rfl rfl (fun j hj => ?_) (fun j hj => h.2.1 j hj) (fun k hk => h.2.2.2.1 k hk)
  show vp_updL (c_S c) o v j = vp_updL (r_S r) o v j
  unfold vp_updL
  split
  · rfl
  · exact h.1 j hj
theorem RC_flush {k : Nat} (hk : k < 4) {c : CS} {r : RS} (h : RC (nI 0) c r) : RC (nI 1) (flushA k c) (oneR 2 k 0 r) := by
  refine RC_act h rfl rfl rfl rfl rfl (fun j hj => h.1 j hj) (fun j hj => h.2.1 j hj) (fun j hj => ?_)
  show hbL (c_fl c ||| (nI 1 <<< (nI k &&& 31))).toInt64 j = upB (r_fl r) k true j
  rw [hb_or hk (by omega), h.2.2.2.1 j hj]
  unfold upB
  by_cases e : j = k
  · simp [e]
  · simp [e]
/-- a fence, in any act that is one -/
theorem RC_fence {w : Nat} (hw : w = 3 ∨ w = 5 ∨ w = 7) {c c1 : CS} {r : RS} (h : RC (nI 0) c r) (a0 : c_S c1 = c_S c) (b0 : c_K c1 = c_K c) (a1 : c_on c1 = c_on c) (a2 : c_sl c1 = c_sl c) (a3 : c_au c1 = c_au c) (a4 : c_mk c1 = c_mk c) (a5 : c_ad c1 = c_ad c) (a6 : c_fl c1 = c_fl c) : RC (nI 1) (fenceA c1) (oneR w 0 0 r) := by
  have eS : r_S (oneR w 0 0 r) = r_S r := by rcases hw with rfl | rfl | rfl <;> rfl
  have eK : r_K (oneR w 0 0 r) = keepR r 32 := by rcases hw with rfl | rfl | rfl <;> rfl
  have ef : r_fl (oneR w 0 0 r) = clrB (r_fl r) 4 := by rcases hw with rfl | rfl | rfl <;> rfl
  refine RC_act h a1 a2 a3 a4 a5 (fun j hj => ?_) (fun j hj => ?_) (fun k hk => ?_)
  · rw [eS]; show c_S c1 j = _; rw [a0]; exact h.1 j hj
  · rw [eK]
    show keepL c1 32 j = _
    unfold keepL keepR
    rw [a0, b0, a6, h.2.2.2.1 (j / 8) (by omega), h.1 j hj, h.2.1 j hj]
  · rw [ef]
    show hbL (nI 0).toInt64 k = _
    rw [hb_0]
    simp [clrB, hk]
theorem LG_act {n w o : Nat} {v : Int64} {c c' : CS} {r : RS} (h : LG n c r) (h1 : c_fi c' = c_fi c) (h2 : c_co c' = c_co c) (h3 : c_sc c' = c_sc c) (h4 : c_ce c' = c_ce c) : LG n c' (oneR w o v r) := LG_congr h1 h2 h3 h4 (one_fi w o v r) (one_ma w o v r) (one_fr w o v r) (one_ol w o v r) h
theorem tak_one (w o : Nat) (v : Int64) (r : RS) (n : Nat) : takR (oneR w o v r) n = takR r n := takR_congr (one_ma w o v r) n
/-- an act that leaves the log alone -/
theorem RN_act {w o : Nat} {v : Int64} {c c' : CS} {r : RS} (h : RN (nI 0) c r) (hC : RC (nI 1) c' (oneR w o v r)) (h4 : w ≠ 4) (h5 : w ≠ 5) (h6 : w ≠ 6) (h7 : w ≠ 7) (a1 : c_fi c' = c_fi c) (a2 : c_co c' = c_co c) (a3 : c_sc c' = c_sc c) (a4 : c_ce c' = c_ce c) (a5 : c_sz c' = c_sz c) (a6 : c_tk c' = c_tk c) (a7 : c_nk c' = c_nk c) (a8 : c_xo c' = c_xo c) : RN (nI 1) c' (oneR w o v r) := by
  obtain ⟨-, hL, g1, g2, g3, g4, g5, g6⟩ := h
  have erc : r_rc (oneR w o v r) = r_rc r := by rw [one_rc, if_neg h7]
  have est := one_st o v r h4 h5 h6
  refine ⟨hC, ?_, ?_, ?_, a7.trans g3, a8.trans g4, ?_, ?_⟩
  · rw [erc]; exact LG_act hL a1 a2 a3 a4
  · rw [erc, a5]; exact g1
  · rw [erc, a6, tak_one]; exact g2
  · rw [erc, est]; exact g5
  · rw [est]; exact g6
theorem m_plain {o : Nat} {v : Int64} {c : CS} {r : RS} (h : RN (nI 0) c r) : RN (nI 1) c (oneR 0 o v r) := RN_act h (RC_plain h.1) (by decide) (by decide) (by decide) (by decide) rfl rfl rfl rfl rfl rfl rfl rfl
theorem m_store {o : Nat} {v : Int64} {c : CS} {r : RS} (h : RN (nI 0) c r) : RN (nI 1) (storeA o v c) (oneR 1 o v r) := RN_act h (RC_store h.1) (by decide) (by decide) (by decide) (by decide) rfl rfl rfl rfl rfl rfl rfl rfl
theorem m_flush {k : Nat} (hk : k < 4) {c : CS} {r : RS} (h : RN (nI 0) c r) : RN (nI 1) (flushA k c) (oneR 2 k 0 r) := RN_act h (RC_flush hk h.1) (by decide) (by decide) (by decide) (by decide) rfl rfl rfl rfl rfl rfl rfl rfl
theorem m_fence {c : CS} {r : RS} (h : RN (nI 0) c r) : RN (nI 1) (fenceA c) (oneR 3 0 0 r) := RN_act h (RC_fence (Or.inl rfl) h.1 rfl rfl rfl rfl rfl rfl rfl rfl) (by decide) (by decide) (by decide) (by decide) rfl rfl rfl rfl rfl rfl rfl rfl
/-! the log's clearing -/
theorem m_cross {c : CS} {r : RS} (h : RN (nI 0) c r) (h1 : 1 ≤ r_rc r) : RX (nI 1) (crossA c) (oneR 6 0 0 r) := by
  obtain ⟨hC, hL, g1, g2, g3, g4, g5, g6⟩ := h
  have erc : r_rc (oneR 6 0 0 r) = r_rc r := one_rc 6 0 0 r
  have est : r_st (oneR 6 0 0 r) = setTo (r_st r) (r_rc r) 3 := rfl
  refine ⟨RC_act hC rfl rfl rfl rfl rfl (fun j hj => hC.1 j hj) (fun j hj => hC.2.1 j hj) (fun k hk => hC.2.2.2.1 k hk), ?_, ?_, ?_, g3, rfl, ⟨?_, ?_⟩, ?_⟩
  · rw [erc]; exact LG_act hL rfl rfl rfl rfl
  · rw [erc]; exact g1
  · rw [erc, tak_one]; exact g2
  · rw [erc]; exact h1
  · intro q hq
    rw [erc] at hq
    rw [est]
    simp [setTo, hq]
  · intro j
    rw [est]
    unfold setTo
    split
    · omega
    · exact g6 j
theorem m_plainX {c : CS} {r : RS} (h : RX (nI 0) c r) : RX (nI 1) c (oneR 0 0 0 r) := by
  obtain ⟨hC, hL, g1, g2, g3, g4, g5, g6⟩ := h
  exact ⟨RC_plain hC, LG_act hL rfl rfl rfl rfl, g1, g2.trans (tak_one 0 0 0 r _).symm, g3, g4, g5, g6⟩
theorem m_gone {c : CS} {r : RS} (h : RX (nI 0) c r) : RN (nI 1) (fenceA (dropA c)) (oneR 7 0 0 r) := by
  obtain ⟨hC, hL, g1, g2, g3, g4, g5, g6⟩ := h
  have erc : r_rc (oneR 7 0 0 r) = 0 := one_rc 7 0 0 r
  have est : r_st (oneR 7 0 0 r) = r_st r := one_st 0 0 r (by decide) (by decide) (by decide)
  refine ⟨RC_fence (c1 := dropA c) (Or.inr (Or.inr rfl)) hC rfl rfl rfl rfl rfl rfl rfl rfl, ?_, ?_, ?_, g3, rfl, ?_, ?_⟩
  · rw [erc]; exact ⟨fun q hq => absurd hq (Nat.not_lt_zero q), Nat.zero_le _, Nat.zero_le _⟩
  · rw [erc]; rfl
  · rw [erc]; rfl
  · rw [erc]; intro q hq; exact absurd hq (Nat.not_lt_zero q)
  · rw [est]; exact g6
/-! a record's appending -/
theorem m_plainQ {k n : Nat} {c : CS} {r : RS} (h : RQ k n (nI 0) c r) : RQ k n (nI 1) c (oneR 0 0 0 r) := by
  obtain ⟨hC, hL, h1, h2, h3, h4, h5, h6, h7, h8, h9⟩ := h
  have e := tak_one 0 0 0 r
  refine ⟨RC_plain hC, LG_act hL rfl rfl rfl rfl, h1, h2.trans (e _).symm, h3, h4, h5, h6, ⟨h7.1, h7.2.1, ?_⟩, ⟨h8.1, h8.2.1, h8.2.2.1, ?_, h8.2.2.2.2⟩, ?_⟩
  · rw [e]; exact h7.2.2
  · rw [e]; exact h8.2.2.2.1
  · intro i hi; rw [e]; exact h9 i hi
theorem m_plainW {c : CS} {r : RS} (h : RW (nI 0) c r) : RW (nI 1) c (oneR 0 0 0 r) := by
  obtain ⟨hC, hL, g1, g2, g3, g4, g5, g6⟩ := h
  exact ⟨RC_plain hC, LG_act hL rfl rfl rfl rfl, g1, g2.trans (tak_one 0 0 0 r _).symm, g3, g4, g5, g6⟩
theorem m_write {k n : Nat} {c : CS} {r : RS} (h : RQ k n (nI 0) c r) : RW (nI 1) (writeA k n c) (oneR 4 0 0 r) := by
  obtain ⟨hC, hL, h1, h2, h3, h4, ⟨h5, h5b⟩, h6, ⟨h7, h7b, h7c⟩, ⟨h8, h8b, h8c, h8d, h8e⟩, h9⟩ := h
  have erc : r_rc (oneR 4 0 0 r) = c_sz c + 1 := (one_rc 4 0 0 r).trans h1
  have est : r_st (oneR 4 0 0 r) = upN (r_st r) (r_rc r - 1) 1 := rfl
  have et : takR r (c_sz c + 1) = takR r (c_sz c) + (n + 1) := by simp only [takR, h7b]
  refine ⟨?_, ?_, ?_, ?_, wx_nk k n c, by rw [wx_xo]; exact h4, ⟨?_, ?_, ?_⟩, ?_⟩
  · refine RC_act hC (wx_on k n c) (wx_sl k n c) (wx_au k n c) (wx_mk k n c) (wx_ad k n c) (fun j hj => ?_) (fun j hj => ?_) (fun i hi => ?_)
    · rw [wx_S]; exact hC.1 j hj
    · rw [wx_K]; exact hC.2.1 j hj
    · rw [wx_fl]; exact hC.2.2.2.1 i hi
  · rw [erc]
    refine ⟨fun q hq => ?_, by omega, by rw [tak_one, et]; omega⟩
    unfold LQ
    rw [tak_one, one_fi, one_ma, one_fr, one_ol, wx_fi, wx_co, wx_sc, wx_ce]
    by_cases e : q = c_sz c
    · subst e
      rw [upN_s, upN_s, upN_s, h2]
      refine ⟨h7.symm, h7b.symm, rfl, h7c, by omega, by omega, by omega, fun i hi => ?_⟩
      rw [h7b] at hi
      rw [pk_cpy_in (by omega) (by omega), show k + (takR r (c_sz c) + 1 + i - (takR r (c_sz c) + 1)) = k + i by omega, hC.1 (k + i) (by omega)]
      exact (h9 i hi).symm
    · have hq2 : q < c_sz c := by omega
      obtain ⟨p1, p2, p3, p4, p5, p6, p7, p8⟩ := hL.1 q hq2
      rw [upN_n _ _ e, upN_n _ _ e, upN_n _ _ e]
      refine ⟨p1, p2, p3, p4, p5, p6, p7, fun i hi => ?_⟩
      have mo := takR_mono r (show q + 1 ≤ c_sz c by omega)
      simp only [takR] at mo
      rw [pk_cpy_out (Or.inl (by rw [h2]; omega))]
      exact p8 i hi
  · rw [erc, wx_sz]
  · rw [erc, wx_tk, tak_one, et, h2]
  · rw [erc]; omega
  · rw [erc, est, h1]; exact upN_s _ _ _
  · intro q hq
    rw [erc] at hq
    rw [est, h1, upN_n _ _ (by omega)]
    exact h5b q (by omega)
  · intro j
    rw [est]
    unfold upN
    split
    · omega
    · exact h6 j
theorem m_keep {c : CS} {r : RS} (h : RW (nI 0) c r) : RN (nI 1) (fenceA (keepN c)) (oneR 5 0 0 r) := by
  obtain ⟨hC, hL, g1, g2, g3, g4, ⟨g5, g5b, g5c⟩, g6⟩ := h
  have erc : r_rc (oneR 5 0 0 r) = r_rc r := one_rc 5 0 0 r
  have est : r_st (oneR 5 0 0 r) = upN (r_st r) (r_rc r - 1) 2 := rfl
  refine ⟨RC_fence (c1 := keepN c) (Or.inr (Or.inl rfl)) hC rfl rfl rfl rfl rfl rfl rfl rfl, ?_, ?_, ?_, rfl, g4, ?_, ?_⟩
  · rw [erc]; exact LG_act hL rfl rfl rfl rfl
  · rw [erc]; exact g1
  · rw [erc, tak_one]; exact g2
  · intro q hq
    rw [erc] at hq
    rw [est]
    by_cases e : q = r_rc r - 1
    · rw [e]; exact upN_s _ _ _
    · rw [upN_n _ _ e]; exact g5c q (by omega)
  · intro j
    rw [est]
    unfold upN
    split
    · omega
    · exact g6 j
