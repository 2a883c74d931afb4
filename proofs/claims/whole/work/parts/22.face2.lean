theorem f_store {c : CS} {r : RS} (a : Int32) (v : Int64) (h : RA c r) : (storeF a v c).1 = (storeR a v r).1 ∧ RA (storeF a v c).2 (storeR a v r).2 := by
  obtain ⟨hN, ho⟩ := h
  unfold storeF storeR
  rw [isW_isV, ho]
  by_cases z : r_op r = false
  · rw [if_pos z, if_pos z]; exact ⟨rfl, hN, ho⟩
  · rw [if_neg z, if_neg z]
    by_cases z2 : isV a = false
    · rw [if_pos z2, if_pos z2]; exact ⟨rfl, hN, ho⟩
    · rw [if_neg z2, if_neg z2]
      obtain ⟨k, rfl, hk⟩ := isV_nat (ts_nf z2)
      rw [nI_clamp (by omega), cov_eq hN]
      by_cases z3 : covR r k = false
      · rw [if_pos z3, if_pos z3]; exact ⟨rfl, hN, ho⟩
      · rw [if_neg z3, if_neg z3]
        have e0 : stoR k v r = listAll [(1, k, v)] (rs_ac (rs_to r (upB (r_to r) (k / 8) true)) 0) := rfl
        have e1 : goF (stoR k v r) = endR (oneR 1 k v (stoR k v r)) := by
          rw [e0, goF_la rfl, goL_one]
        have hX : RN (nI 0) (slA k c) (rs_to r (upB (r_to r) (k / 8) true)) := by
          obtain ⟨⟨h1, h2, h3, h4, h5, h6, h7⟩, hL, g⟩ := hN
          have e := takR_congr (r := r) (r' := rs_to r (upB (r_to r) (k / 8) true)) rfl
          refine ⟨⟨h1, h2, h3, h4, fun j hj => ?_, fun j hj hj2 => ?_, h7⟩, LG_congr (c := c) (c' := slA k c) (r := r) (r' := rs_to r (upB (r_to r) (k / 8) true)) rfl rfl rfl rfl rfl rfl rfl rfl hL, g.1, g.2.1.trans (e _).symm, g.2.2⟩
          · show hbL (c_sl c ||| (nI 1 <<< (nI (k / 8) &&& 31))).toInt64 j = upB (r_to r) (k / 8) true j
            rw [hb_or (by omega) (by omega), h5 j hj]
            unfold upB
            by_cases e : j = k / 8
            · simp [e]
            · simp [e]
          · show hbL (c_sl c ||| (nI 1 <<< (nI (k / 8) &&& 31))).toInt64 j = false
            rw [hb_or (by omega) hj2, h6 j hj hj2]
            have : ¬ j = k / 8 := by omega
            simp [this]
        have hY : RN (nI 0) (slA k c) (stoR k v r) := RN_la [(1, k, v)] hX
        obtain ⟨q1, q2⟩ := end_N (m_store (o := k) (v := v) hY)
        unfold goI
        rw [e1]
        refine ⟨bRes_eq q1, q2, ?_⟩
        have o1 := end_op (storeA k v (slA k c))
        have o2 := go_op [(1, k, v)] (stoR k v r)
        rw [goL_one] at o2
        cases w : (endActF (storeA k v (slA k c))).1 with
        | true =>
          rw [o1.1 w]
          exact Eq.trans ho (o2.1 (q1.symm.trans w)).symm
        | false => rw [o1.2 w]; exact (o2.2 (q1.symm.trans w)).symm
theorem areW_iff (x n : Int32) : areW x n = true ↔ (¬ n < nI 1 ∧ ¬ nI 8 < n ∧ isV x = true ∧ isV (x + n - nI 1) = true) := by
  have isVn : ∀ k : Nat, k < 2 ^ 31 → (isV (nI k) = true ↔ k < 32) := by
    intro k hk
    constructor
    · intro h
      obtain ⟨j, e, hj⟩ := isV_nat h
      have := (nI_eq hk (by omega)).mp e
      omega
    · intro h
      unfold isV
      rw [decide_eq_false (nI_pos hk), decide_eq_false (fun q => by have := (nI_ltI (by decide) hk).mp q; omega)]
      rfl
  constructor
  · intro h
    obtain ⟨ka, kn, rfl, rfl, q1, q2, q3⟩ := areW_nat h
    refine ⟨fun q => by have := (nI_ltI (by omega) (by decide)).mp q; omega, fun q => by have := (nI_ltI (by decide) (by omega)).mp q; omega, (isVn ka (by omega)).mpr (by omega), ?_⟩
    rw [nI_add, pk_sub (by omega)]
    exact (isVn _ (by omega)).mpr (by omega)
  · rintro ⟨h1, h2, h3, h4⟩
    obtain ⟨ka, rfl, hka⟩ := isV_nat h3
    have n0 : ¬ n < 0 := by
      intro q
      apply h1
      rw [Int32.lt_iff_toInt_lt] at q ⊢
      have z : (0 : Int32).toInt = 0 := rfl
      have z1 : (nI 1).toInt = 1 := rfl
      omega
    obtain ⟨kn, hkn, rfl⟩ := nI_of n0
    have q2 : 1 ≤ kn := Nat.not_lt.mp (fun q => h1 ((nI_ltI hkn (by decide)).mpr q))
    have q3 : kn ≤ 8 := Nat.not_lt.mp (fun q => h2 ((nI_ltI (by decide) hkn).mpr q))
    rw [nI_add, pk_sub (by omega)] at h4
    have q4 := (isVn _ (by omega)).mp h4
    unfold areW
    rw [pk_sub (by omega), decide_eq_false h1, decide_eq_false h2, decide_eq_false (nI_pos (by omega)), decide_eq_false (fun q => by have := (nI_ltI (by omega) (by omega)).mp q; omega)]
    rfl
theorem f_snap {c : CS} {r : RS} (x n : Int32) (h : RA c r) : (snapF x n c).1 = (snapX x n r).1 ∧ RA (snapF x n c).2 (snapX x n r).2 := by
  obtain ⟨hN, ho⟩ := h
  unfold snapF snapX
  rw [ho]
  by_cases z : r_op r = false
  · rw [if_pos z, if_pos z]; exact ⟨rfl, hN, ho⟩
  · rw [if_neg z, if_neg z]
    by_cases zw : areW x n = true
    · obtain ⟨w1, w2, w3, w4⟩ := (areW_iff x n).mp zw
      obtain ⟨ka, kn, rfl, rfl, q1, q2, q3⟩ := areW_nat zw
      rw [if_neg (show ¬ areW (nI ka) (nI kn) = false by rw [zw]; decide), if_neg w1, if_neg w2, if_neg (show ¬ isV (nI ka) = false by rw [w3]; decide), if_neg (show ¬ isV (nI ka + nI kn - nI 1) = false by rw [w4]; decide), nI_clamp (n := kn) (by omega), nI_clamp (n := ka) (by omega)]
      obtain ⟨hF, hnk, ht, h2z, hI⟩ := RN_SF hN
      have htk : c_tk c = takR r (r_rc r) := hN.2.2.2.1
      by_cases zr : 40 < takR r (r_rc r) + kn + 1
      · rw [if_pos (show roomF c kn = false by unfold roomF; exact decide_eq_false (by omega)), if_pos zr]; exact ⟨rfl, hN, ho⟩
      · rw [if_neg (show ¬ roomF c kn = false by unfold roomF; rw [decide_eq_true (by omega)]; decide), if_neg zr]
        have hrc : r_rc r < 20 := by
          have := hN.2.2.1
          omega
        have hac := sx_ac ka kn r
        unfold goI
        rw [goF_la hac]
        have hQ : RQ ka kn (nI 0) c (listAll (snL kn (kn + 4)) (snX ka kn r)) := by
          obtain ⟨⟨h1, h2, h3, h4, h5, h6, h7, h8, h9, h10⟩, hL, g1, g2, g3, g4, g5, g6⟩ := hN
          have em : ∀ q, q < r_rc r → upN (r_ma r) (r_rc r) kn q = r_ma r q := fun q hq => upN_n _ _ (by omega)
          have et : ∀ q, q ≤ r_rc r → takR (listAll (snL kn (kn + 4)) (snX ka kn r)) q = takR r q := by
            intro q
            induction q with
            | zero => intro _; rfl
            | succ q ih =>
              intro hq
              simp only [takR]
              rw [ih (by omega), la_f_ma, sx_ma, em q (by omega)]
          unfold RQ
          rw [g1]
          refine ⟨⟨?_, ?_, ?_, ?_, ?_, h6, ?_, h8, ?_, ?_⟩, ⟨?_, hL.2.1, ?_⟩, ?_, ?_, g3, g4, ⟨?_, ?_⟩, ?_, ⟨?_, ?_, ?_⟩, ⟨q1, q2, q3, ?_, hrc⟩, ?_⟩
          · rw [la_f_S, sx_S]; exact h1
          · rw [la_f_K, sx_K]; exact h2
          · rw [la_f_of, sx_of]; exact h3
          · rw [la_f_fl, sx_fl]; exact h4
          · rw [la_f_to, sx_to]; exact h5
          · rw [la_f_ar, sx_ar]; exact h7
          · rw [la_f_mk, sx_mk]; exact h9
          · rw [la_f_me, sx_me]; exact h10
          · intro q hq
            obtain ⟨p1, p2, p3, p4, p5, p6, p7, p8⟩ := hL.1 q hq
            have mo := takR_mono r (show q + 1 ≤ r_rc r by omega)
            simp only [takR] at mo
            unfold LQ
            rw [et q (by omega), la_f_fi, la_f_ma, la_f_fr, la_f_ol, sx_fi, sx_ma, sx_fr, sx_ol, upN_n _ _ (by omega), upN_n _ _ (by omega), upN_n _ _ (by omega)]
            refine ⟨p1, p2, p3, p4, p5, p6, p7, fun i hi => ?_⟩
            have h2r := takR_two (r := r) (n := r_rc r) (fun q hq => (hL.1 q hq).2.2.2.2.1)
            have h2q := takR_two (r := r) (n := q) (fun z hz => (hL.1 z (by omega)).2.2.2.2.1)
            have lo : takR r q - q + r_ma r q ≤ takR r (r_rc r) - r_rc r := by
              have q5 : ∀ b, q + 1 ≤ b → b ≤ r_rc r → takR r (q + 1) + (b - (q + 1)) ≤ takR r b := by
                intro b
                induction b with
                | zero => intro z; omega
                | succ b ih =>
                  intro z1 z2
                  by_cases e : q + 1 = b + 1
                  · rw [← e]; omega
                  · have := ih (by omega) (by omega)
                    simp only [takR] at this ⊢
                    omega
              have := q5 (r_rc r) (by omega) (Nat.le_refl _)
              simp only [takR] at this
              omega
            rw [pk_cpy_out (Or.inl (by omega))]
            exact p8 i hi
          · rw [et _ (Nat.le_refl _)]; exact hL.2.2
          · rw [la_f_rc, sx_rc]
          · rw [et _ (Nat.le_refl _)]; exact g2
          · rw [la_f_st, sx_st, upN_s]
          · intro q hq
            rw [la_f_st, sx_st, upN_n _ _ (by omega)]
            exact g5 q hq
          · intro j
            rw [la_f_st, sx_st]
            unfold upN
            split
            · omega
            · exact g6 j
          · rw [la_f_fi, sx_fi, upN_s]
          · rw [la_f_ma, sx_ma, upN_s]
          · rw [et _ (Nat.le_refl _), la_f_fr, sx_fr, upN_s]
          · rw [et _ (Nat.le_refl _)]; omega
          · intro i hi
            rw [et _ (Nat.le_refl _), la_f_ol, sx_ol, la_f_S, sx_S, pk_cpy_in (by omega) (by omega)]
            congr 1
            omega
        obtain ⟨e1, e2⟩ := sim_app hQ
        refine ⟨bRes_eq e1, e2, ?_⟩
        have o1 := app_op ka kn c
        have o2 := go_op (snL kn (kn + 4)) (listAll (snL kn (kn + 4)) (snX ka kn r))
        cases w : (appendF ka kn c).1 with
        | true =>
          rw [o1.1 w, o2.1 (e1.symm.trans w), la_f_op, sx_op]
          exact ho
        | false => rw [o1.2 w, o2.2 (e1.symm.trans w)]
    · rw [if_pos (ts_nt zw)]
      by_cases w1 : n < nI 1
      · rw [if_pos w1]; exact ⟨rfl, hN, ho⟩
      · rw [if_neg w1]
        by_cases w2 : nI 8 < n
        · rw [if_pos w2]; exact ⟨rfl, hN, ho⟩
        · rw [if_neg w2]
          by_cases w3 : isV x = false
          · rw [if_pos w3]; exact ⟨rfl, hN, ho⟩
          · rw [if_neg w3]
            by_cases w4 : isV (x + n - nI 1) = false
            · rw [if_pos w4]; exact ⟨rfl, hN, ho⟩
            · exact absurd ((areW_iff x n).mpr ⟨w1, w2, ts_nf w3, ts_nf w4⟩) zw
