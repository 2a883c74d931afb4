theorem f_commit {c : CS} {r : RS} (h : RA c r) : (commitF c).1 = (commitR r).1 ∧ RA (commitF c).2 (commitR r).2 := by
  obtain ⟨hN, ho⟩ := h
  unfold commitF commitR
  rw [ho]
  by_cases z : r_op r = false
  · rw [if_pos z, if_pos z]; exact ⟨rfl, hN, ho⟩
  · rw [if_neg z, if_neg z]
    unfold goI
    rw [goF_laop rfl]
    have hR := RN_op false (RN_la (comL r) hN)
    have o2 := go_op (comL r) (rs_op (listAll (comL r) (rs_ac r 0)) false)
    have e0 : r_op (rs_op (listAll (comL r) (rs_ac r 0)) false) = false := rx_op_op _ _
    unfold OpG at o2
    rw [e0] at o2
    generalize rs_op (listAll (comL r) (rs_ac r 0)) false = r0 at hR o2 ⊢
    have hs : Sm (if (keepLinesF (c_sl c) c).1 = true then clearF (keepLinesF (c_sl c) c).2 else (false, (keepLinesF (c_sl c) c).2)) (goL (comL r) r0) := by
      unfold comL
      rw [goL_app]
      have hk := sim_keep (x := c_sl c) (f := r_to r) hR hN.1.2.2.2.2.1 hN.1.2.2.2.2.2.1
      refine Sm_seq (u := keepLinesF (c_sl c) c) (f := clearF) (g := goL (clrL r)) hk (fun ok => ?_)
      have l4 := log_keep ok
      have hr2 := hk.2
      generalize (keepLinesF (c_sl c) c).2 = c2 at hr2 l4 ⊢
      generalize (goL (tlL (r_to r) 4 ++ (if tlL (r_to r) 4 = [] then [] else [(3, 0, 0)])) r0).2 = r2 at hr2 ⊢
      have e3 : clrL r = clrL r2 := by
        have q : r_rc r2 = r_rc r := by rw [← hr2.2.2.1, l4, hN.2.2.1]
        unfold clrL
        rw [q]
      rw [e3]
      exact sim_clr hr2
    have opw : r_op (goL (comL r) r0).2 = false := by
      cases w : (goL (comL r) r0).1 with
      | true => exact o2.1 w
      | false => exact o2.2 w
    cases w1 : (keepLinesF (c_sl c) c).1 with
    | false =>
      rw [w1, if_neg (by decide)] at hs
      rw [if_pos rfl]
      refine ⟨?_, hs.2, ?_⟩
      · show (-2 : Int32) = bRes (goL (comL r) r0).1
        rw [← hs.1]; rfl
      · rw [opw]; exact (keep_op (c_sl c) c).2 w1
    | true =>
      rw [w1, if_pos rfl] at hs
      rw [if_neg (by decide)]
      cases w2 : (clearF (keepLinesF (c_sl c) c).2).1 with
      | false =>
        rw [if_pos rfl]
        refine ⟨?_, hs.2, ?_⟩
        · show (-2 : Int32) = bRes (goL (comL r) r0).1
          rw [← hs.1, w2]; rfl
        · rw [opw]; exact (clr_op _).2 w2
      | true =>
        rw [if_neg (by decide)]
        refine ⟨?_, RN_cop false hs.2, ?_⟩
        · show nI 0 = bRes (goL (comL r) r0).1
          rw [← hs.1, w2]; rfl
        · rw [opw]; exact cx_op_op _ _
