theorem sim_clr {c : CS} {r : RS} (h : RN (nI 0) c r) : Sm (clearF c) (goL (clrL r) r) := by
  unfold clearF clrL
  by_cases z : r_rc r = 0
  · rw [if_pos (h.2.2.1.trans z), if_pos z]; exact ⟨rfl, h⟩
  · rw [if_neg (fun q => z (h.2.2.1.symm.trans q)), if_neg z, twoF_eq]
    exact sim_clr3 h (by omega)
/-! appending -/
theorem sim_Qp {k n : Nat} : ∀ (j : Nat) (c : CS) (r : RS), RQ k n (nI 0) c r → (runF (plainL j) c).1 = (goL (List.replicate j (0, 0, 0)) r).1 ∧ ((runF (plainL j) c).1 = true → RQ k n (nI 0) (runF (plainL j) c).2 (goL (List.replicate j (0, 0, 0)) r).2) ∧ ((runF (plainL j) c).1 = false → RN (nI 0) (runF (plainL j) c).2 (goL (List.replicate j (0, 0, 0)) r).2) := by
  intro j
  induction j with
  | zero => intro c r h; exact ⟨rfl, fun _ => h, fun q => (by cases q)⟩
  | succ j ih =>
    intro c r h
    have e1 : plainL (j + 1) = (fun c => c) :: plainL j := rfl
    have e2 : List.replicate (j + 1) ((0, 0, 0) : Act) = (0, 0, 0) :: List.replicate j (0, 0, 0) := rfl
    rw [e1, e2]
    obtain ⟨a1, a2, a3⟩ := end_Q (m_plainQ h)
    cases z : (endActF c).1 with
    | false =>
      rw [runF_f (f := fun c => c) z, goL_f (x := (0, 0, 0)) (by rw [← a1]; exact z)]
      exact ⟨rfl, fun q => (by cases q), fun _ => a3 z⟩
    | true =>
      rw [runF_t (f := fun c => c) z, goL_t (x := (0, 0, 0)) (by rw [← a1]; exact z)]
      exact ih _ _ (a2 z)
theorem sim_W3 {k n : Nat} {c : CS} {r : RS} (h : RQ k n (nI 0) c r) : Sm (runF [writeA k n, fun c => c, fun c => fenceA (keepN c)] c) (goL [(4, 0, 0), (0, 0, 0), (5, 0, 0)] r) := by
  obtain ⟨a1, a2, a3⟩ := end_W (m_write h)
  cases z : (endActF (writeA k n c)).1 with
  | false => rw [runF_f z, goL_f (x := (4, 0, 0)) (by rw [← a1]; exact z)]; exact ⟨rfl, a3 z⟩
  | true =>
    rw [runF_t z, goL_t (x := (4, 0, 0)) (by rw [← a1]; exact z)]
    have hx := a2 z
    have er : (endR (oneR ((4, 0, 0) : Act).1 ((4, 0, 0) : Act).2.1 ((4, 0, 0) : Act).2.2 r)).2 = (endR (oneR 4 0 0 r)).2 := rfl
    rw [er]
    generalize (endActF (writeA k n c)).2 = c1 at hx ⊢
    generalize (endR (oneR 4 0 0 r)).2 = r1 at hx ⊢
    obtain ⟨b1, b2, b3⟩ := end_W (m_plainW hx)
    cases z2 : (endActF c1).1 with
    | false => rw [runF_f (f := fun c => c) z2, goL_f (x := (0, 0, 0)) (by rw [← b1]; exact z2)]; exact ⟨rfl, b3 z2⟩
    | true =>
      rw [runF_t (f := fun c => c) z2, goL_t (x := (0, 0, 0)) (by rw [← b1]; exact z2)]
      have er2 : (endR (oneR ((0, 0, 0) : Act).1 ((0, 0, 0) : Act).2.1 ((0, 0, 0) : Act).2.2 r1)).2 = (endR (oneR 0 0 0 r1)).2 := rfl
      have hx2 := b2 z2
      rw [er2, runF_one, goL_one]
      exact end_N (m_keep hx2)
theorem snL_plain (n : Nat) : ∀ i, i ≤ n + 1 → snL n i = List.replicate i (0, 0, 0) := by
  intro i
  induction i with
  | zero => intro _; rfl
  | succ i ih =>
    intro hi
    have e : snC n (i + 1) = 0 := by unfold snC; rw [if_neg (by omega), if_neg (by omega)]
    show snL n i ++ [(snC n (i + 1), 0, 0)] = _
    rw [ih (by omega), e, List.replicate_succ']
theorem snL_all (n : Nat) : snL n (n + 4) = List.replicate (n + 1) (0, 0, 0) ++ [(4, 0, 0), (0, 0, 0), (5, 0, 0)] := by
  have e2 : snC n (n + 1 + 1) = 4 := by unfold snC; rw [if_pos (by omega)]
  have e3 : snC n (n + 2 + 1) = 0 := by unfold snC; rw [if_neg (by omega), if_neg (by omega)]
  have e4 : snC n (n + 3 + 1) = 5 := by unfold snC; rw [if_neg (by omega), if_pos (by omega)]
  show ((snL n (n + 1) ++ [(snC n (n + 1 + 1), 0, 0)]) ++ [(snC n (n + 2 + 1), 0, 0)]) ++ [(snC n (n + 3 + 1), 0, 0)] = _
  rw [e2, e3, e4, snL_plain n (n + 1) (Nat.le_refl _), List.append_assoc, List.append_assoc]
  rfl
theorem sim_app {k n : Nat} {c : CS} {r : RS} (h : RQ k n (nI 0) c r) : Sm (appendF k n c) (goL (snL n (n + 4)) r) := by
  rw [snL_all, goL_app]
  unfold appendF
  obtain ⟨a1, a2, a3⟩ := sim_Qp (n + 1) c r h
  cases z : (runF (plainL (n + 1)) c).1 with
  | true =>
    rw [if_pos rfl, if_pos (by rw [← a1]; exact z), twoF_eq]
    exact sim_W3 (a2 z)
  | false =>
    rw [if_neg (by decide), if_neg (by rw [← a1, z]; decide)]
    exact ⟨rfl, a3 z⟩
/-! lines -/
def tlD (f : Nat → Bool) : Nat → List Act
  | 0 => []
  | k + 1 => (if f (4 - (k + 1)) = true then [(2, 4 - (k + 1), 0)] else []) ++ tlD f k
theorem tlD_eq (f : Nat → Bool) : tlL f 4 = tlD f 4 := by
  simp only [tlL, tlD, List.nil_append, List.append_nil, List.append_assoc]
theorem Mt_lines {x : Int32} {f : Nat → Bool} (h : ∀ k, k < 4 → hbL x.toInt64 k = f k) : ∀ k, k ≤ 4 → Mt (linesL x k) (tlD f k ++ [(3, 0, 0)]) := by
  intro k
  induction k with
  | zero => intro _; exact ⟨fun c r hr => m_fence hr, trivial⟩
  | succ k ih =>
    intro hk
    have e := h (4 - (k + 1)) (by omega)
    unfold linesL tlD
    rw [e]
    by_cases z : f (4 - (k + 1)) = true
    · rw [if_pos z, if_pos z]
      exact ⟨fun c r hr => m_flush (by omega) hr, ih (by omega)⟩
    · rw [if_neg z, if_neg z]
      exact ih (by omega)
theorem tlL_none {f : Nat → Bool} (h : ∀ k, k < 4 → f k = false) : tlL f 4 = [] := by
  simp [tlL, h 0 (by omega), h 1 (by omega), h 2 (by omega), h 3 (by omega)]
theorem tlL_some {f : Nat → Bool} {k : Nat} (hk : k < 4) (h : f k = true) : ∀ i, k < i → tlL f i ≠ [] := by
  intro i
  induction i with
  | zero => intro z; omega
  | succ i ih =>
    intro z e
    have e2 := List.append_eq_nil_iff.mp e
    by_cases q : k = i
    · subst q
      rw [if_pos h] at e2
      exact absurd e2.2 (by simp)
    · exact ih (by omega) e2.1
theorem sim_keep {x : Int32} {f : Nat → Bool} {c : CS} {r : RS} (h : RN (nI 0) c r) (h1 : ∀ k, k < 4 → hbL x.toInt64 k = f k) (h2 : ∀ k, 4 ≤ k → k < 64 → hbL x.toInt64 k = false) : Sm (keepLinesF x c) (goL (tlL f 4 ++ (if tlL f 4 = [] then [] else [(3, 0, 0)])) r) := by
  unfold keepLinesF
  by_cases z : x = 0
  · have e : tlL f 4 = [] := tlL_none (fun k hk => by rw [← h1 k hk, z]; have q := hb_0 k; rw [nI_0] at q; exact q)
    rw [if_pos z, e, if_pos rfl]
    exact ⟨rfl, h⟩
  · have e : ¬ tlL f 4 = [] := by
      intro q
      apply z
      apply hb_zero
      intro j hj
      by_cases l : j < 4
      · cases w : f j with
        | false => rw [h1 j l, w]
        | true => exact absurd q (tlL_some l w 4 (by omega))
      · exact h2 j (by omega) hj
    rw [if_neg z, if_neg e, tlD_eq]
    exact sim_N _ _ (Mt_lines h1 4 (Nat.le_refl _)) c r h
/-! storing the old values -/
def downL (r : RS) : Nat → List Act
  | 0 => []
  | k + 1 => uiL r k (r_ma r k) ++ downL r k
theorem uoL_down (r : RS) : ∀ p, p ≤ r_rc r → uoL r p ++ downL r (r_rc r - p) = downL r (r_rc r) := by
  intro p
  induction p with
  | zero => intro _; rfl
  | succ p ih =>
    intro hp
    rw [← ih (by omega), show r_rc r - p = (r_rc r - (p + 1)) + 1 by omega]
    show (uoL r p ++ uiL r (r_rc r - (p + 1)) (r_ma r (r_rc r - (p + 1)))) ++ downL r (r_rc r - (p + 1)) = uoL r p ++ (uiL r (r_rc r - (p + 1)) (r_ma r (r_rc r - (p + 1))) ++ downL r (r_rc r - (p + 1)))
    rw [List.append_assoc]
theorem uoL_all (r : RS) : uoL r (r_rc r) = downL r (r_rc r) := by
  have q := uoL_down r (r_rc r) (Nat.le_refl _)
  rw [Nat.sub_self] at q
  rw [← q]
  show _ = _ ++ []
  rw [List.append_nil]
theorem uiL_map (r : RS) (q : Nat) : ∀ n, uiL r q n = (List.range' 0 n).map (fun i => (1, r_fi r q + i, r_ol r (r_fr r q + i))) := by
  intro n
  induction n with
  | zero => rfl
  | succ n ih =>
    show uiL r q n ++ [_] = _
    rw [ih, List.range'_concat]
    simp
theorem soI_map (c : CS) (q : Nat) : ∀ k, k ≤ c_co c q → soI c q k = (List.range' (c_co c q - k) k).map (fun i => storeA (c_fi c q + i) (c_ce c (c_sc c q + 1 + i))) := by
  intro k
  induction k with
  | zero => intro _; rfl
  | succ k ih =>
    intro hk
    show _ :: soI c q k = _
    rw [ih (by omega), List.range'_succ, List.map_cons, show c_co c q - (k + 1) + 1 = c_co c q - k by omega]
theorem Mt_map {g : Nat → CS → CS} {h : Nat → Act} : ∀ l : List Nat, (∀ i ∈ l, ∀ c r, RN (nI 0) c r → RN (nI 1) (g i c) (oneR (h i).1 (h i).2.1 (h i).2.2 r)) → Mt (l.map g) (l.map h) := by
  intro l
  induction l with
  | nil => intro _; trivial
  | cons a l ih => intro z; exact ⟨z a List.mem_cons_self, ih (fun i hi => z i (List.mem_cons_of_mem _ hi))⟩
theorem Mt_rec {c : CS} {r : RS} {q : Nat} (h : LQ c r q) : Mt (soI c q (c_co c q)) (uiL r q (r_ma r q)) := by
  obtain ⟨p1, p2, p3, p4, p5, p6, p7, p8⟩ := h
  rw [soI_map c q _ (Nat.le_refl _), uiL_map, Nat.sub_self, p2]
  refine Mt_map _ (fun i hi c' r' hr => ?_)
  have hi2 : i < r_ma r q := by
    have := (List.mem_range'_1.mp hi).2
    omega
  rw [p1, p3, p8 i hi2, p4]
  exact m_store hr
theorem Mt_down {c : CS} {r : RS} : ∀ n, (∀ q, q < n → LQ c r q) → Mt (soR c n) (downL r n) := by
  intro n
  induction n with
  | zero => intro _; trivial
  | succ n ih => intro h; exact Mt_app _ _ (Mt_rec (h n (by omega))) (ih (fun q hq => h q (by omega)))
theorem sim_old {c : CS} {r : RS} (h : RN (nI 0) c r) : Sm (stOldF c) (goL (uoL r (r_rc r)) r) := by
  unfold stOldF
  rw [uoL_all, h.2.2.1]
  exact sim_N _ _ (Mt_down _ h.2.1.1) c r h
/-! the lines of the records -/
theorem anyTo_iff {p : Nat → Bool} {n : Nat} : anyTo p n = true ↔ ∃ q, q < n ∧ p q = true := by
  constructor
  · intro h
    induction n with
    | zero => cases h
    | succ n ih =>
      unfold anyTo at h
      rcases Bool.or_eq_true_iff.mp h with z | z
      · obtain ⟨q, a, b⟩ := ih z; exact ⟨q, by omega, b⟩
      · exact ⟨n, by omega, z⟩
  · rintro ⟨q, a, b⟩; exact anyTo_mono a b
def lnP (c : CS) (l q : Nat) : Bool := decide (l = c_fi c q / 8) || decide (l = (c_fi c q + c_co c q - 1) / 8)
theorem cov_bits {c : CS} : ∀ n, (∀ q, q < n → 1 ≤ c_co c q ∧ c_fi c q + c_co c q ≤ 32) → ∀ j, j < 64 → hbL (covL c n).toInt64 j = anyTo (lnP c j) n := by
  intro n
  induction n with
  | zero => intro _ j _; exact hb_0 j
  | succ n ih =>
    intro h j hj
    have b := h n (by omega)
    show hbL ((covL c n ||| (nI 1 <<< (nI (c_fi c n / 8) &&& 31))) ||| (nI 1 <<< (nI ((c_fi c n + c_co c n - 1) / 8) &&& 31))).toInt64 j = (anyTo (lnP c j) n || lnP c j n)
    rw [hb_or (by omega) hj, hb_or (by omega) hj, ih (fun q hq => h q (by omega)) j hj, Bool.or_assoc]
    rfl
theorem cov_has {c : CS} {r : RS} (h : RN (nI 0) c r) : (∀ k, k < 4 → hbL (covL c (c_sz c)).toInt64 k = hasL r k) ∧ (∀ k, 4 ≤ k → k < 64 → hbL (covL c (c_sz c)).toInt64 k = false) := by
  have hb := cov_bits (c := c) (c_sz c) (fun q hq => by
    rw [h.2.2.1] at hq
    obtain ⟨p1, p2, p3, p4, p5, p6, p7, p8⟩ := h.2.1.1 q hq
    rw [p1, p2]; exact ⟨p5, p7⟩)
  refine ⟨fun k hk => ?_, fun k hk hk2 => ?_⟩
  · rw [hb k (by omega)]
    apply Bool.eq_iff_iff.mpr
    rw [anyTo_iff]
    unfold hasL covR
    rw [anyTo_iff, h.2.2.1]
    constructor
    · rintro ⟨q, hq, e⟩
      obtain ⟨p1, p2, p3, p4, p5, p6, p7, p8⟩ := h.2.1.1 q hq
      unfold lnP at e
      rw [p1, p2] at e
      simp only [Bool.or_eq_true, decide_eq_true_eq] at e
      by_cases z : k = r_fi r q / 8
      · refine ⟨r_fi r q - 8 * k, by omega, anyTo_iff.mpr ⟨q, hq, ?_⟩⟩
        unfold covQ
        simp only [Bool.and_eq_true, decide_eq_true_eq]
        omega
      · have z2 : k = (r_fi r q + r_ma r q - 1) / 8 := by omega
        refine ⟨r_fi r q + r_ma r q - 1 - 8 * k, by omega, anyTo_iff.mpr ⟨q, hq, ?_⟩⟩
        unfold covQ
        simp only [Bool.and_eq_true, decide_eq_true_eq]
        omega
    · rintro ⟨b, hb2, e⟩
      obtain ⟨q, hq, e2⟩ := anyTo_iff.mp e
      obtain ⟨p1, p2, p3, p4, p5, p6, p7, p8⟩ := h.2.1.1 q hq
      unfold covQ at e2
      simp only [Bool.and_eq_true, decide_eq_true_eq] at e2
      refine ⟨q, hq, ?_⟩
      unfold lnP
      rw [p1, p2]
      simp only [Bool.or_eq_true, decide_eq_true_eq]
      omega
  · rw [hb k hk2]
    cases w : anyTo (lnP c k) (c_sz c) with
    | false => rfl
    | true =>
      obtain ⟨q, hq, e⟩ := anyTo_iff.mp w
      rw [h.2.2.1] at hq
      obtain ⟨p1, p2, p3, p4, p5, p6, p7, p8⟩ := h.2.1.1 q hq
      unfold lnP at e
      rw [p1, p2] at e
      simp only [Bool.or_eq_true, decide_eq_true_eq] at e
      omega
theorem has_some {c : CS} {r : RS} (h : RN (nI 0) c r) (h1 : 1 ≤ r_rc r) : tlL (hasL r) 4 ≠ [] := by
  obtain ⟨p1, p2, p3, p4, p5, p6, p7, p8⟩ := h.2.1.1 0 (by omega)
  refine tlL_some (k := r_fi r 0 / 8) (by omega) ?_ 4 (by omega)
  unfold hasL
  refine anyTo_iff.mpr ⟨r_fi r 0 - 8 * (r_fi r 0 / 8), by omega, ?_⟩
  unfold covR
  refine anyTo_iff.mpr ⟨0, by omega, ?_⟩
  unfold covQ
  simp only [Bool.and_eq_true, decide_eq_true_eq]
  omega
