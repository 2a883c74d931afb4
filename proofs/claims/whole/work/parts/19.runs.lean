/-! ===== runs of acts, in both states ===== -/
def goL : List Act → RS → Bool × RS
  | [], r => (true, r)
  | x :: xs, r => if (endR (oneR x.1 x.2.1 x.2.2 r)).1 = true then goL xs (endR (oneR x.1 x.2.1 x.2.2 r)).2 else (false, (endR (oneR x.1 x.2.1 x.2.2 r)).2)
theorem goL_t {x : Act} {xs : List Act} {r : RS} (h : (endR (oneR x.1 x.2.1 x.2.2 r)).1 = true) : goL (x :: xs) r = goL xs (endR (oneR x.1 x.2.1 x.2.2 r)).2 := by
  show (if (endR (oneR x.1 x.2.1 x.2.2 r)).1 = true then _ else _) = _
  rw [if_pos h]
theorem goL_f {x : Act} {xs : List Act} {r : RS} (h : (endR (oneR x.1 x.2.1 x.2.2 r)).1 = false) : goL (x :: xs) r = (false, (endR (oneR x.1 x.2.1 x.2.2 r)).2) := by
  show (if (endR (oneR x.1 x.2.1 x.2.2 r)).1 = true then _ else _) = _
  rw [if_neg (by rw [h]; decide)]
theorem goL_app (xs ys : List Act) : ∀ r : RS, goL (xs ++ ys) r = if (goL xs r).1 = true then goL ys (goL xs r).2 else (false, (goL xs r).2) := by
  induction xs with
  | nil => intro r; rfl
  | cons x xs ih =>
    intro r
    rw [List.cons_append]
    cases h : (endR (oneR x.1 x.2.1 x.2.2 r)).1 with
    | true => rw [goL_t h, goL_t h, ih]
    | false => rw [goL_f h, goL_f h]; rfl
theorem endR_ok {r : RS} (h : (endR r).1 = true) : ∃ v, (endR r).2 = rs_ar r v := by
  unfold endR at h ⊢
  by_cases z : r_ar r = 0
  · rw [if_pos z]; exact ⟨r_ar r, rfl⟩
  · rw [if_neg z] at h ⊢
    by_cases z1 : r_ar r - 1 = 0
    · rw [if_pos z1] at h; cases h
    · rw [if_neg z1]; exact ⟨_, rfl⟩
theorem go_list : ∀ (xs : List Act) (k : Nat) (r : RS), (∀ i x, xs[i]? = some x → r_an r (k + i) = x.1 ∧ r_on r (k + i) = x.2.1 ∧ r_wi r (k + i) = x.2.2) → goR xs.length k r = goL xs r := by
  intro xs
  induction xs with
  | nil => intro k r _; rfl
  | cons x xs ih =>
    intro k r h
    obtain ⟨e1, e2, e3⟩ := h 0 x rfl
    have es : stepR k r = endR (oneR x.1 x.2.1 x.2.2 r) := by
      unfold stepR
      rw [Nat.add_zero] at e1 e2 e3
      rw [e1, e2, e3]
    show goR (xs.length + 1) k r = _
    cases hz : (endR (oneR x.1 x.2.1 x.2.2 r)).1 with
    | false => rw [goR_f (by omega) (by rw [es]; exact hz), goL_f hz, es]
    | true =>
      rw [goR_t (by omega) (by rw [es]; exact hz), goL_t hz, es]
      show goR xs.length (k + 1) _ = _
      apply ih
      obtain ⟨v, ev⟩ := endR_ok hz
      intro i z hi
      rw [ev]
      have q := h (i + 1) z (by simpa using hi)
      rw [show k + (i + 1) = k + 1 + i by omega] at q
      refine ⟨?_, ?_, ?_⟩
      · rw [rx_an_ar, one_an]; exact q.1
      · rw [rx_on_ar, one_on]; exact q.2.1
      · rw [rx_wi_ar, one_wi]; exact q.2.2
theorem goF_of {xs : List Act} {r : RS} (hac : r_ac r = xs.length) (h : ∀ i x, xs[i]? = some x → r_an r i = x.1 ∧ r_on r i = x.2.1 ∧ r_wi r i = x.2.2) : goF r = goL xs r := by
  unfold goF
  rw [hac]
  exact go_list xs 0 r (fun i x hi => by rw [Nat.zero_add]; exact h i x hi)
theorem goF_la {xs : List Act} {r : RS} (h0 : r_ac r = 0) : goF (listAll xs r) = goL xs (listAll xs r) := by
  refine goF_of (by rw [la_f_ac, h0, Nat.zero_add]) (fun i x hi => ?_)
  have q := la_at xs r i x hi
  rw [h0, Nat.zero_add] at q
  exact q
theorem goF_laop {xs : List Act} {r : RS} (h0 : r_ac r = 0) (b : Bool) : goF (rs_op (listAll xs r) b) = goL xs (rs_op (listAll xs r) b) := by
  refine goF_of (by rw [rx_ac_op, la_f_ac, h0, Nat.zero_add]) (fun i x hi => ?_)
  have q := la_at xs r i x hi
  rw [h0, Nat.zero_add] at q
  rw [rx_an_op, rx_on_op, rx_wi_op]
  exact q
/-- the reference's state may differ in what it lists, and in 'open' -/
theorem RN_r {m : Int32} {c : CS} {r r' : RS} (h : RN m c r) (e1 : r_S r' = r_S r) (e2 : r_K r' = r_K r) (e3 : r_fl r' = r_fl r) (e4 : r_rc r' = r_rc r) (e5 : r_fi r' = r_fi r) (e6 : r_ma r' = r_ma r) (e7 : r_fr r' = r_fr r) (e8 : r_st r' = r_st r) (e9 : r_ol r' = r_ol r) (e10 : r_of r' = r_of r) (e11 : r_to r' = r_to r) (e12 : r_ar r' = r_ar r) (e13 : r_mk r' = r_mk r) (e14 : r_me r' = r_me r) : RN m c r' := by
  obtain ⟨hC, hL, g1, g2, g3, g4, g5, g6⟩ := h
  refine ⟨?_, ?_, ?_, ?_, g3, g4, ?_, ?_⟩
  · unfold RC; rw [e1, e2, e3, e10, e11, e12, e13, e14]; exact hC
  · rw [e4]; exact LG_congr rfl rfl rfl rfl e5 e6 e7 e9 hL
  · rw [e4]; exact g1
  · rw [e4, takR_congr e6]; exact g2
  · rw [e4, e8]; exact g5
  · rw [e8]; exact g6
theorem RN_la {m : Int32} {c : CS} {r : RS} (xs : List Act) (h : RN m c r) : RN m c (listAll xs (rs_ac r 0)) :=
  RN_r (r := rs_ac r 0) (RN_r (r := r) (r' := rs_ac r 0) h rfl rfl rfl rfl rfl rfl rfl rfl rfl rfl rfl rfl rfl rfl) (la_f_S xs _) (la_f_K xs _) (la_f_fl xs _) (la_f_rc xs _) (la_f_fi xs _) (la_f_ma xs _) (la_f_fr xs _) (la_f_st xs _) (la_f_ol xs _) (la_f_of xs _) (la_f_to xs _) (la_f_ar xs _) (la_f_mk xs _) (la_f_me xs _)
theorem RN_op {m : Int32} {c : CS} {r : RS} (b : Bool) (h : RN m c r) : RN m c (rs_op r b) := RN_r (r := r) (r' := rs_op r b) h rfl rfl rfl rfl rfl rfl rfl rfl rfl rfl rfl rfl rfl rfl
theorem RN_cop {m : Int32} {c : CS} {r : RS} (b : Bool) (h : RN m c r) : RN m (cs_op c b) r := by
  obtain ⟨hC, hL, g1, g2, g3, g4, g5, g6⟩ := h
  exact ⟨hC, LG_congr (c := c) (c' := cs_op c b) (r := r) (r' := r) rfl rfl rfl rfl rfl rfl rfl rfl hL, g1, g2, g3, g4, g5, g6⟩
/-- matched runs -/
def Mt : List (CS → CS) → List Act → Prop
  | [], [] => True
  | f :: fs, x :: xs => (∀ c r, RN (nI 0) c r → RN (nI 1) (f c) (oneR x.1 x.2.1 x.2.2 r)) ∧ Mt fs xs
  | _, _ => False
def Sm (u : Bool × CS) (w : Bool × RS) : Prop := u.1 = w.1 ∧ RN (nI 0) u.2 w.2
theorem sim_N : ∀ (fs : List (CS → CS)) (xs : List Act), Mt fs xs → ∀ c r, RN (nI 0) c r → Sm (runF fs c) (goL xs r) := by
  intro fs
  induction fs with
  | nil =>
    intro xs h c r hr
    cases xs with
    | nil => exact ⟨rfl, hr⟩
    | cons x xs => exact absurd h id
  | cons f fs ih =>
    intro xs h c r hr
    cases xs with
    | nil => exact absurd h id
    | cons x xs =>
      obtain ⟨h1, h2⟩ := h
      obtain ⟨q1, q2⟩ := end_N (h1 c r hr)
      cases z : (endActF (f c)).1 with
      | true => rw [runF_t z, goL_t (by rw [← q1]; exact z)]; exact ih xs h2 _ _ q2
      | false => rw [runF_f z, goL_f (by rw [← q1]; exact z)]; exact ⟨rfl, q2⟩
theorem Mt_app : ∀ (fs : List (CS → CS)) (xs : List Act) {gs : List (CS → CS)} {ys : List Act}, Mt fs xs → Mt gs ys → Mt (fs ++ gs) (xs ++ ys) := by
  intro fs
  induction fs with
  | nil =>
    intro xs gs ys h hg
    cases xs with
    | nil => exact hg
    | cons x xs => exact absurd h id
  | cons f fs ih =>
    intro xs gs ys h hg
    cases xs with
    | nil => exact absurd h id
    | cons x xs => exact ⟨h.1, ih xs h.2 hg⟩
/-- one run behind another -/
theorem Sm_seq {u : Bool × CS} {w : Bool × RS} {f : CS → Bool × CS} {g : RS → Bool × RS} (h : Sm u w) (k : u.1 = true → Sm (f u.2) (g w.2)) : Sm (if u.1 = true then f u.2 else (false, u.2)) (if w.1 = true then g w.2 else (false, w.2)) := by
  cases z : u.1 with
  | true =>
    have z2 : w.1 = true := h.1.symm.trans z
    rw [if_pos rfl, z2, if_pos rfl]; exact k z
  | false =>
    have z2 : w.1 = false := h.1.symm.trans z
    rw [if_neg (by decide), z2, if_neg (by decide)]; exact ⟨rfl, h.2⟩
theorem goL_one (x : Act) (r : RS) : goL [x] r = endR (oneR x.1 x.2.1 x.2.2 r) := by
  show (if (endR (oneR x.1 x.2.1 x.2.2 r)).1 = true then (true, (endR (oneR x.1 x.2.1 x.2.2 r)).2) else (false, (endR (oneR x.1 x.2.1 x.2.2 r)).2)) = _
  generalize endR (oneR x.1 x.2.1 x.2.2 r) = u
  obtain ⟨b, v⟩ := u
  cases b <;> rfl
/-! clearing -/
theorem sim_clr3 {c : CS} {r : RS} (h : RN (nI 0) c r) (h1 : 1 ≤ r_rc r) : Sm (runF [crossA, fun c => c, fun c => fenceA (dropA c)] c) (goL [(6, 0, 0), (0, 0, 0), (7, 0, 0)] r) := by
  obtain ⟨a1, a2, a3⟩ := end_X (m_cross h h1)
  cases z : (endActF (crossA c)).1 with
  | false => rw [runF_f z, goL_f (x := (6, 0, 0)) (by rw [← a1]; exact z)]; exact ⟨rfl, a3 z⟩
  | true =>
    rw [runF_t z, goL_t (x := (6, 0, 0)) (by rw [← a1]; exact z)]
    have hx := a2 z
    generalize (endActF (crossA c)).2 = c1 at hx ⊢
    have er : (endR (oneR ((6, 0, 0) : Act).1 ((6, 0, 0) : Act).2.1 ((6, 0, 0) : Act).2.2 r)).2 = (endR (oneR 6 0 0 r)).2 := rfl
    rw [er]
    generalize (endR (oneR 6 0 0 r)).2 = r1 at hx ⊢
    obtain ⟨b1, b2, b3⟩ := end_X (m_plainX hx)
    cases z2 : (endActF c1).1 with
    | false => rw [runF_f (f := fun c => c) z2, goL_f (x := (0, 0, 0)) (by rw [← b1]; exact z2)]; exact ⟨rfl, b3 z2⟩
    | true =>
      rw [runF_t (f := fun c => c) z2, goL_t (x := (0, 0, 0)) (by rw [← b1]; exact z2)]
      have er2 : (endR (oneR ((0, 0, 0) : Act).1 ((0, 0, 0) : Act).2.1 ((0, 0, 0) : Act).2.2 r1)).2 = (endR (oneR 0 0 0 r1)).2 := rfl
      have hx2 := b2 z2
      rw [er2, runF_one, goL_one]
      exact end_N (m_gone hx2)
