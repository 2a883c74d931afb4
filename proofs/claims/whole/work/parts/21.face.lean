/-! ===== undoing; the public methods, in both states ===== -/
theorem log_run {c : CS} : ∀ fs : List (CS → CS), (∀ f ∈ fs, ∀ d, c_fi (f d) = c_fi d ∧ c_co (f d) = c_co d ∧ c_sz (f d) = c_sz d) → (runF fs c).1 = true → c_fi (runF fs c).2 = c_fi c ∧ c_co (runF fs c).2 = c_co c ∧ c_sz (runF fs c).2 = c_sz c := by
  intro fs hf ok
  refine run_inv (fun d => c_fi d = c_fi c ∧ c_co d = c_co c ∧ c_sz d = c_sz c) (fun d hd h => ?_) fs (fun f hm d hd => ?_) c ⟨rfl, rfl, rfl⟩ ok
  · obtain ⟨v, e, -⟩ := endAct_ok h
    rw [e]
    exact hd
  · have q := hf f hm d
    exact ⟨q.1.trans hd.1, q.2.1.trans hd.2.1, q.2.2.trans hd.2.2⟩
theorem log_old {c : CS} (ok : (stOldF c).1 = true) : c_fi (stOldF c).2 = c_fi c ∧ c_co (stOldF c).2 = c_co c ∧ c_sz (stOldF c).2 = c_sz c := by
  refine log_run _ (fun f hf d => ?_) ok
  obtain ⟨j, v, rfl⟩ := soR_mem hf
  exact ⟨rfl, rfl, rfl⟩
theorem log_keep {x : Int32} {c : CS} (ok : (keepLinesF x c).1 = true) : c_sz (keepLinesF x c).2 = c_sz c := by
  unfold keepLinesF at ok ⊢
  by_cases q : x = 0
  · rw [if_pos q]
  · rw [if_neg q] at ok ⊢
    refine (log_run _ (fun f hf d => ?_) ok).2.2
    rcases linesL_mem hf with rfl | ⟨j, rfl⟩
    · exact ⟨rfl, rfl, rfl⟩
    · exact ⟨rfl, rfl, rfl⟩
theorem covL_congr {c d : CS} (h1 : c_fi d = c_fi c) (h2 : c_co d = c_co c) : ∀ n, covL d n = covL c n := by
  intro n
  induction n with
  | zero => rfl
  | succ n ih => simp only [covL, ih, h1, h2]
theorem sim_undo {c : CS} {r : RS} (h : RN (nI 0) c r) : Sm (undoF c) (goL (undL r) r) := by
  by_cases z : r_rc r = 0
  · have s1 : stOldF c = (true, c) := by unfold stOldF; rw [h.2.2.1, z]; rfl
    have s2 : keepLinesF (covL c (c_sz c)) c = (true, c) := by rw [h.2.2.1, z]; unfold keepLinesF; rw [if_pos (show covL c 0 = 0 from nI_0)]
    have s3 : clearF c = (true, c) := by unfold clearF; rw [if_pos (h.2.2.1.trans z)]
    have e : undoF c = (true, c) := by unfold undoF; rw [s1, if_pos rfl, s2, if_pos rfl, s3]
    have e2 : undL r = [] := by unfold undL; rw [if_pos z]
    rw [e, e2]
    exact ⟨rfl, h⟩
  · have e2 : undL r = uoL r (r_rc r) ++ ((tlL (hasL r) 4 ++ [(3, 0, 0)]) ++ clrL r) := by
      unfold undL
      rw [if_neg z]
      simp only [List.append_assoc]
    rw [e2, goL_app]
    have ho := sim_old h
    refine Sm_seq (u := stOldF c) (f := fun d => if (keepLinesF (covL d (c_sz d)) d).1 = true then clearF (keepLinesF (covL d (c_sz d)) d).2 else (false, (keepLinesF (covL d (c_sz d)) d).2)) (g := goL ((tlL (hasL r) 4 ++ [(3, 0, 0)]) ++ clrL r)) ho (fun ok => ?_)
    obtain ⟨l1, l2, l3⟩ := log_old ok
    have hr1 := ho.2
    generalize (stOldF c).2 = c1 at hr1 l1 l2 l3 ⊢
    generalize (goL (uoL r (r_rc r)) r).2 = r1 at hr1 ⊢
    rw [goL_app]
    have ec : covL c1 (c_sz c1) = covL c (c_sz c) := by rw [l3]; exact covL_congr l1 l2 _
    have hb := cov_has h
    have hk := sim_keep (x := covL c1 (c_sz c1)) (f := hasL r) hr1 (by rw [ec]; exact hb.1) (by rw [ec]; exact hb.2)
    rw [if_neg (has_some h (by omega))] at hk
    refine Sm_seq (u := keepLinesF (covL c1 (c_sz c1)) c1) (f := clearF) (g := goL (clrL r)) hk (fun ok2 => ?_)
    have l4 := log_keep ok2
    have hr2 := hk.2
    generalize (keepLinesF (covL c1 (c_sz c1)) c1).2 = c2 at hr2 l4 ⊢
    generalize (goL (tlL (hasL r) 4 ++ [(3, 0, 0)]) r1).2 = r2 at hr2 ⊢
    have e3 : clrL r = clrL r2 := by
      have q : r_rc r2 = r_rc r := by rw [← hr2.2.2.1, l4, l3, h.2.2.1]
      unfold clrL
      rw [q]
    rw [e3]
    exact sim_clr hr2
/-! 'open' through a run -/
def OpF (u : Bool × CS) (c : CS) : Prop := (u.1 = true → c_op u.2 = c_op c) ∧ (u.1 = false → c_op u.2 = false)
def OpG (u : Bool × RS) (r : RS) : Prop := (u.1 = true → r_op u.2 = r_op r) ∧ (u.1 = false → r_op u.2 = false)
theorem end_op (c : CS) : OpF (endActF c) c := by
  refine ⟨fun h => ?_, fun h => ?_⟩
  · obtain ⟨v, e, -⟩ := endAct_ok h
    rw [e]; rfl
  · unfold endActF at h ⊢
    by_cases h1 : c_au c = 0
    · rw [if_pos h1] at h; cases h
    · rw [if_neg h1] at h ⊢
      by_cases h2 : c_au c - 1 = 0
      · rw [if_pos h2]; exact lo_op _
      · rw [if_neg h2] at h; cases h
theorem run_op : ∀ (fs : List (CS → CS)), (∀ f ∈ fs, ∀ d, c_op (f d) = c_op d) → ∀ c, OpF (runF fs c) c := by
  intro fs
  induction fs with
  | nil => intro _ c; exact ⟨fun _ => rfl, fun h => (by cases h)⟩
  | cons f fs ih =>
    intro hf c
    have q := end_op (f c)
    have e := hf f List.mem_cons_self c
    cases z : (endActF (f c)).1 with
    | true =>
      rw [runF_t z]
      have i2 := ih (fun g hg => hf g (List.mem_cons_of_mem _ hg)) (endActF (f c)).2
      exact ⟨fun h => (i2.1 h).trans ((q.1 z).trans e), i2.2⟩
    | false => rw [runF_f z]; exact ⟨fun h => (by cases h), fun _ => q.2 z⟩
theorem OpF_seq {u : Bool × CS} {c : CS} {f : CS → Bool × CS} (h : OpF u c) (k : ∀ d, OpF (f d) d) : OpF (if u.1 = true then f u.2 else (false, u.2)) c := by
  cases z : u.1 with
  | true =>
    rw [if_pos rfl]
    have q := k u.2
    exact ⟨fun e => (q.1 e).trans (h.1 z), q.2⟩
  | false => rw [if_neg (by decide)]; exact ⟨fun e => (by cases e), fun _ => h.2 z⟩
theorem keep_op (x : Int32) (c : CS) : OpF (keepLinesF x c) c := by
  unfold keepLinesF
  by_cases q : x = 0
  · rw [if_pos q]; exact ⟨fun _ => rfl, fun h => (by cases h)⟩
  · rw [if_neg q]
    refine run_op _ (fun f hf d => ?_) c
    rcases linesL_mem hf with rfl | ⟨j, rfl⟩ <;> rfl
theorem old_op (c : CS) : OpF (stOldF c) c := by
  refine run_op _ (fun f hf d => ?_) c
  obtain ⟨j, v, rfl⟩ := soR_mem hf
  rfl
theorem clr_op (c : CS) : OpF (clearF c) c := by
  unfold clearF
  by_cases q : c_sz c = 0
  · rw [if_pos q]; exact ⟨fun _ => rfl, fun h => (by cases h)⟩
  · rw [if_neg q, twoF_eq]
    refine run_op _ (fun f hf d => ?_) c
    simp only [List.mem_cons, List.not_mem_nil, or_false] at hf
    rcases hf with rfl | rfl | rfl <;> rfl
theorem app_op (k n : Nat) (c : CS) : OpF (appendF k n c) c := by
  refine OpF_seq (u := runF (plainL (n + 1)) c) (f := twoF (writeA k n) (fun c => fenceA (keepN c))) (run_op _ (fun f hf d => ?_) c) (fun d => ?_)
  · rw [List.eq_of_mem_replicate hf]
  · rw [twoF_eq]
    refine run_op _ (fun f hf e => ?_) d
    simp only [List.mem_cons, List.not_mem_nil, or_false] at hf
    rcases hf with rfl | rfl | rfl
    · exact wx_op k n e
    · rfl
    · rfl
theorem undo_op (c : CS) : OpF (undoF c) c :=
  OpF_seq (u := stOldF c) (f := fun d => if (keepLinesF (covL d (c_sz d)) d).1 = true then clearF (keepLinesF (covL d (c_sz d)) d).2 else (false, (keepLinesF (covL d (c_sz d)) d).2)) (old_op c) (fun d => OpF_seq (u := keepLinesF (covL d (c_sz d)) d) (f := clearF) (keep_op _ d) clr_op)
theorem go_op : ∀ (xs : List Act) (r : RS), OpG (goL xs r) r := by
  intro xs
  induction xs with
  | nil => intro r; exact ⟨fun _ => rfl, fun h => (by cases h)⟩
  | cons x xs ih =>
    intro r
    cases z : (endR (oneR x.1 x.2.1 x.2.2 r)).1 with
    | true =>
      rw [goL_t z]
      obtain ⟨v, e⟩ := endR_ok z
      have i2 := ih (endR (oneR x.1 x.2.1 x.2.2 r)).2
      refine ⟨fun h => (i2.1 h).trans ?_, i2.2⟩
      rw [e, rx_op_ar, one_op]
    | false =>
      rw [goL_f z]
      refine ⟨fun h => (by cases h), fun _ => ?_⟩
      show r_op (endR (oneR x.1 x.2.1 x.2.2 r)).2 = false
      generalize oneR x.1 x.2.1 x.2.2 r = u at z ⊢
      unfold endR at z ⊢
      by_cases h1 : r_ar u = 0
      · rw [if_pos h1] at z; cases z
      · rw [if_neg h1] at z ⊢
        by_cases h2 : r_ar u - 1 = 0
        · rw [if_pos h2]; exact fa_op _
        · rw [if_neg h2] at z; cases z
/-! the states between calls -/
def RA (c : CS) (r : RS) : Prop := RN (nI 0) c r ∧ c_op c = r_op r
theorem RN_SF {c : CS} {r : RS} (h : RN (nI 0) c r) : SF c ∧ c_nk c = false ∧ c_tk c ≤ 40 ∧ 2 * c_sz c ≤ c_tk c ∧ RI r := by
  obtain ⟨hC, hL, g1, g2, g3, g4, g5, g6⟩ := h
  have h2 := takR_two (r := r) (n := r_rc r) (fun q hq => (hL.1 q hq).2.2.2.2.1)
  have fits : ∀ q, q < r_rc r → takR r q + (r_ma r q + 1) ≤ 40 := fun q hq => by
    have m := takR_mono r (show q + 1 ≤ r_rc r by omega)
    simp only [takR] at m
    have := hL.2.2
    omega
  have au : c_au c ≤ 500 := hC.2.2.2.2.2.2.2.1
  have ar : c_au c = r_ar r := hC.2.2.2.2.2.2.1
  refine ⟨⟨⟨by rw [g1]; exact hL.2.1, fun q => (by rw [g3] at q; cases q), au⟩, fun q hq => ?_⟩, g3, by rw [g2]; exact hL.2.2, by rw [g1, g2]; exact h2, hL.2.1, by rw [← ar]; exact au, g6, hL.2.2, h2, fun q hq => ?_⟩
  · rw [g1] at hq
    obtain ⟨p1, p2, p3, p4, p5, p6, p7, p8⟩ := hL.1 q hq
    have := fits q hq
    rw [p1, p2, p3]
    exact ⟨p5, p6, p7, by omega⟩
  · obtain ⟨p1, p2, p3, p4, p5, p6, p7, p8⟩ := hL.1 q hq
    have := fits q hq
    rw [p4]
    exact ⟨p5, p6, p7, by omega⟩
theorem bRes_eq {a b : Bool} (h : a = b) : bRes a = bRes b := by rw [h]
theorem f_arm {c : CS} {r : RS} (n : Int32) (v : Int64) (h : RA c r) : (armF n v c).1 = (armR n v r).1 ∧ RA (armF n v c).2 (armR n v r).2 := by
  unfold armF armR
  by_cases z : n < 0
  · rw [if_pos z, if_pos z]; exact ⟨rfl, h⟩
  · rw [if_neg z, if_neg z]
    by_cases z2 : nI 500 < n
    · rw [if_pos z2, if_pos z2]; exact ⟨rfl, h⟩
    · rw [if_neg z2, if_neg z2]
      obtain ⟨k, rfl, hk⟩ := arm_nat z z2
      rw [nI_clamp (by omega)]
      obtain ⟨⟨hC, hL, g⟩, ho⟩ := h
      obtain ⟨h1, h2, h3, h4, h5, h6, h7, h8, h9, h10⟩ := hC
      have e := takR_congr (r := r) (r' := rs_mk (rs_ar r k) v) rfl
      exact ⟨rfl, ⟨⟨h1, h2, h3, h4, h5, h6, rfl, hk, rfl, h10⟩, LG_congr (c := c) (c' := cs_mk (cs_au c k) v) (r := r) (r' := rs_mk (rs_ar r k) v) rfl rfl rfl rfl rfl rfl rfl rfl hL, g.1, g.2.1.trans (e _).symm, g.2.2⟩, ho⟩
theorem f_begin {c : CS} {r : RS} (h : RA c r) : (beginF c).1 = (beginR r).1 ∧ RA (beginF c).2 (beginR r).2 := by
  obtain ⟨⟨hC, hL, g⟩, ho⟩ := h
  have hon : c_on c = !(r_of r) := hC.2.2.1
  unfold beginF beginR
  by_cases z : r_of r = true
  · rw [if_pos (by rw [hon, z]; rfl), if_pos z]; exact ⟨rfl, ⟨hC, hL, g⟩, ho⟩
  · rw [if_neg (by rw [hon, ts_nt z]; decide), if_neg z]
    by_cases z2 : r_op r = true
    · rw [if_pos (ho.trans z2), if_pos z2]; exact ⟨rfl, ⟨hC, hL, g⟩, ho⟩
    · rw [if_neg (fun q => z2 (ho.symm.trans q)), if_neg z2]
      obtain ⟨h1, h2, h3, h4, h5, h6, h7⟩ := hC
      have e := takR_congr (r := r) (r' := rs_to (rs_op r true) (clrB (r_to r) 4)) rfl
      refine ⟨rfl, ⟨⟨h1, h2, h3, h4, fun k hk => ?_, fun k _ _ => hb_0 k, h7⟩, LG_congr (c := c) (c' := cs_sl (cs_op c true) (nI 0)) (r := r) (r' := rs_to (rs_op r true) (clrB (r_to r) 4)) rfl rfl rfl rfl rfl rfl rfl rfl hL, g.1, g.2.1.trans (e _).symm, g.2.2⟩, rfl⟩
      show hbL (nI 0).toInt64 k = clrB (r_to r) 4 k
      rw [hb_0]
      simp [clrB, hk]
theorem isW_isV (a : Int32) : isW a = isV a := by
  have e : (nI 32 ≤ a) ↔ (nI 31 < a) := by
    rw [Int32.le_iff_toInt_le, Int32.lt_iff_toInt_lt]
    have z1 : (nI 32).toInt = 32 := rfl
    have z2 : (nI 31).toInt = 31 := rfl
    omega
  unfold isW isV
  rw [decide_eq_decide.mpr e]
theorem anyTo_congr {p q : Nat → Bool} : ∀ n, (∀ k, k < n → p k = q k) → anyTo p n = anyTo q n := by
  intro n
  induction n with
  | zero => intro _; rfl
  | succ n ih => intro h; simp only [anyTo, ih (fun k hk => h k (by omega)), h n (by omega)]
theorem cov_eq {c : CS} {r : RS} (h : RN (nI 0) c r) (k : Nat) : coversF c k = covR r k := by
  unfold coversF covR
  rw [h.2.2.1]
  refine anyTo_congr _ (fun q hq => ?_)
  obtain ⟨p1, p2, -⟩ := h.2.1.1 q hq
  unfold covP covQ
  rw [p1, p2]
theorem f_seen {c : CS} {r : RS} (a : Int32) (h : RA c r) : seenF a c = seenR a r := by
  have hon : c_on c = !(r_of r) := h.1.1.2.2.1
  unfold seenF seenR
  by_cases z : r_of r = true
  · rw [if_pos (by rw [hon, z]; rfl), if_pos z]
  · rw [if_neg (by rw [hon, ts_nt z]; decide), if_neg z, isW_isV]
    by_cases z2 : isV a = false
    · rw [if_pos z2, if_pos z2]
    · rw [if_neg z2, if_neg z2]
      obtain ⟨k, rfl, hk⟩ := isV_nat (ts_nf z2)
      rw [nI_clamp (by omega)]
      exact h.1.1.1 k hk
theorem f_kept {c : CS} {r : RS} (a : Int32) (h : RA c r) : keptF a c = keptR a r := by
  unfold keptF keptR
  rw [isW_isV]
  by_cases z2 : isV a = false
  · rw [if_pos z2, if_pos z2]
  · rw [if_neg z2, if_neg z2]
    obtain ⟨k, rfl, hk⟩ := isV_nat (ts_nf z2)
    rw [nI_clamp (by omega)]
    exact h.1.1.2.1 k hk
