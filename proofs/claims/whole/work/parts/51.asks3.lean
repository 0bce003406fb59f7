/-! count, rate, share, estimate, rounded -/
theorem row_ne {M : fm_M} {k j q : Nat} {v : Int32} (h : q ≠ k) : (fm_sI M k j v).1 q = M.1 q := fm_u_ne h
def pv (M M1 : fm_M) : Prop := M1.1 = M.1 ∧ (∀ q, q < 210 → M1.2.1 q = M.2.1 q) ∧ M1.2.2.1 = M.2.2.1
theorem tail_j {k : Int32} {b : Int64} {M : fm_M} (h1 : M.1 174 0 = k) (h2 : k = 0 → M.2.1 210 0 = b) : ((ck 174 10).bind fun _ => bd (f_Mo_thrown 174 M) fun x111 M109 => if x111 = k then if k = 0 then (aj 210 0 M109).bind fun x114 => if (lg_cmp x114 b) = 0 then some M109 else none else some M109 else none) = some M := by
  rw [ck_e cl_174, ob_e]
  unfold f_Mo_thrown
  rw [gi_e cl_174, ob_e, bd_e, if_pos h1]
  by_cases hk : k = 0
  · rw [if_pos hk, show (0 : Int32) = nI 0 from rfl, aj_n an_210 (by decide) (by decide), ob_e, h2 hk]
    have : lg_cmp b b = 0 := by simp [lg_cmp]
    rw [this]
    rfl
  · rw [if_neg hk]
theorem ask_j {f : fm_M → Option (Int32 × fm_M)} {g : fm_M → Option (Int64 × fm_M)} {M : fm_M} (hR : Rel M M) {k : Int32} {v : Int64} (hC : f M = some (k, if k = 0 then fm_sJ M 210 0 v else M)) (hM : ∀ M1 : fm_M, pv M M1 → ∃ b, g M1 = some (b, fm_sI M1 174 0 k) ∧ (k = 0 → b = v)) :
    ∃ M', (bd (f M) fun x101 M102 => (ck 174 10).bind fun _ => bd (g M102) fun x107 M105 => (ck 174 10).bind fun _ => bd (f_Mo_thrown 174 M105) fun x111 M109 => if x111 = x101 then if x101 = 0 then (aj 210 0 M109).bind fun x114 => if (lg_cmp x114 x107) = 0 then some M109 else none else some M109 else none) = some M' ∧ Rel M' M' := by
  rw [hC, bd_e, ck_e cl_174, ob_e]
  by_cases hk : k = 0
  · rw [if_pos hk]
    obtain ⟨b, h1, h2⟩ := hM (fm_sJ M 210 0 v) ⟨rfl, fun q hq => fm_u_ne (by omega), rfl⟩
    refine ⟨fm_sI (fm_sJ M 210 0 v) 174 0 k, ?_, Rel_c hR (eqC_tr (eqC_J (by decide)) (eqC_I (by decide))) (eqM_tr (eqM_J (Or.inr (by decide))) (eqM_t _ _))⟩
    rw [h1, bd_e]
    exact tail_j rfl (fun _ => by rw [h2 hk]; rfl)
  · rw [if_neg hk]
    obtain ⟨b, h1, h2⟩ := hM M ⟨rfl, fun _ _ => rfl, rfl⟩
    refine ⟨fm_sI M 174 0 k, ?_, Rel_c hR (eqC_I (by decide)) (eqM_t _ _)⟩
    rw [h1, bd_e]
    exact tail_j rfl (fun h9 => absurd h9 hk)
theorem out_d {v : UInt64} {M : fm_M} : sd 211 0 v M = some (fm_sD M 211 0 v) := sd_n (k := 0) an_211 (by decide) (by decide)
theorem ask_f {f : fm_M → Option (Int32 × fm_M)} {g : fm_M → Option (UInt32 × fm_M)} {M : fm_M} (hR : Rel M M) {k : Int32} {v : UInt32} (hv : pos32 v) (hC : f M = some (k, if k = 0 then fm_sD M 211 0 (FP.f2d v) else M)) (hM : ∀ M1 : fm_M, pv M M1 → ∃ b, g M1 = some (b, fm_sI M1 174 0 k) ∧ (k = 0 → b = v)) :
    ∃ M', (bd (f M) fun x101 M102 => (ck 174 10).bind fun _ => bd (g M102) fun x107 M105 => (ck 174 10).bind fun _ => bd (f_Mo_thrown 174 M105) fun x111 M109 => if x111 = x101 then if x101 = 0 then (ad 211 0 M109).bind fun x114 => (nn64 (FP.f2d x107)).bind fun _ => if (Op.cmpValue (FP.dcmp x114 (FP.f2d x107)) .l) = 0 then some M109 else (ad 211 0 M109).bind fun x118 => (ad 211 0 M109).bind fun x120 => if (Op.cmpValue (FP.dcmp x118 x120) .l) = 0 then none else if (Op.cmpValue (FP.fcmp x107 x107) .l) = 0 then none else some M109 else some M109 else none) = some M' ∧ Rel M' M' := by
  rw [hC, bd_e, ck_e cl_174, ob_e]
  by_cases hk : k = 0
  · rw [if_pos hk]
    obtain ⟨b, h1, h2⟩ := hM (fm_sD M 211 0 (FP.f2d v)) ⟨rfl, fun q hq => rfl, rfl⟩
    have hb := h2 hk
    subst hb
    refine ⟨fm_sI (fm_sD M 211 0 (FP.f2d b)) 174 0 k, ?_, Rel_c hR (eqC_tr eqC_D (eqC_I (by decide))) (eqM_tr eqM_D (eqM_t _ _))⟩
    have e1 : ad 211 0 (fm_sI (fm_sD M 211 0 (FP.f2d b)) 174 0 k) = some (FP.f2d b) := by
      rw [show (0 : Int32) = nI 0 from rfl, ad_n an_211 (by decide) (by decide)]
      rfl
    rw [h1, bd_e, ob_e]
    unfold f_Mo_thrown
    rw [gi_e cl_174, ob_e, bd_e, if_pos (show (fm_sI (fm_sD M 211 0 (FP.f2d b)) 174 0 k).1 174 0 = k from rfl), if_pos hk, e1, ob_e, pos_nn64 (pos_f2d hv), ob_e, if_pos (dself (pos_f2d hv))]
  · rw [if_neg hk]
    obtain ⟨b, h1, h2⟩ := hM M ⟨rfl, fun _ _ => rfl, rfl⟩
    refine ⟨fm_sI M 174 0 k, ?_, Rel_c hR (eqC_I (by decide)) (eqM_t _ _)⟩
    rw [h1, bd_e, ob_e]
    unfold f_Mo_thrown
    rw [gi_e cl_174, ob_e, bd_e, if_pos (show (fm_sI M 174 0 k).1 174 0 = k from rfl), if_neg hk]
theorem ask_dd {f : fm_M → Option (Int32 × fm_M)} {g : fm_M → Option (UInt64 × fm_M)} {M : fm_M} (hR : Rel M M) {k : Int32} {v : UInt64} (hv : pos64 v) (hC : f M = some (k, if k = 0 then fm_sD M 211 0 v else M)) (hM : ∀ M1 : fm_M, pv M M1 → ∃ b, g M1 = some (b, fm_sI M1 174 0 k) ∧ (k = 0 → b = v)) :
    ∃ M', (bd (f M) fun x101 M102 => (ck 174 10).bind fun _ => bd (g M102) fun x107 M105 => (ck 174 10).bind fun _ => bd (f_Mo_thrown 174 M105) fun x111 M109 => if x111 = x101 then if x101 = 0 then (ad 211 0 M109).bind fun x114 => if (Op.cmpValue (FP.dcmp x114 x107) .l) = 0 then some M109 else (ad 211 0 M109).bind fun x117 => (ad 211 0 M109).bind fun x119 => if (Op.cmpValue (FP.dcmp x117 x119) .l) = 0 then none else if (Op.cmpValue (FP.dcmp x107 x107) .l) = 0 then none else some M109 else some M109 else none) = some M' ∧ Rel M' M' := by
  rw [hC, bd_e, ck_e cl_174, ob_e]
  by_cases hk : k = 0
  · rw [if_pos hk]
    obtain ⟨b, h1, h2⟩ := hM (fm_sD M 211 0 v) ⟨rfl, fun q hq => rfl, rfl⟩
    have hb := h2 hk
    subst hb
    refine ⟨fm_sI (fm_sD M 211 0 b) 174 0 k, ?_, Rel_c hR (eqC_tr eqC_D (eqC_I (by decide))) (eqM_tr eqM_D (eqM_t _ _))⟩
    have e1 : ad 211 0 (fm_sI (fm_sD M 211 0 b) 174 0 k) = some b := by
      rw [show (0 : Int32) = nI 0 from rfl, ad_n an_211 (by decide) (by decide)]
      rfl
    rw [h1, bd_e, ob_e]
    unfold f_Mo_thrown
    rw [gi_e cl_174, ob_e, bd_e, if_pos (show (fm_sI (fm_sD M 211 0 b) 174 0 k).1 174 0 = k from rfl), if_pos hk, e1, ob_e, if_pos (dself hv)]
  · rw [if_neg hk]
    obtain ⟨b, h1, h2⟩ := hM M ⟨rfl, fun _ _ => rfl, rfl⟩
    refine ⟨fm_sI M 174 0 k, ?_, Rel_c hR (eqC_I (by decide)) (eqM_t _ _)⟩
    rw [h1, bd_e, ob_e]
    unfold f_Mo_thrown
    rw [gi_e cl_174, ob_e, bd_e, if_pos (show (fm_sI M 174 0 k).1 174 0 = k from rfl), if_neg hk]
/-- the class tells of the sites alone -/
theorem site_bad {s : Nat} {M : fm_M} {a1 : Int32} (hm : M.1 174 23 = nI s) (hs2 : s ≤ 78) (hv : ¬ (0 ≤ a1.toInt ∧ a1.toInt < s)) : f_Mo_rate 174 a1 M = some (FP.fconst0, fm_sI M 174 0 1) ∧ f_Mo_share 174 a1 M = some (FP.fconst0, fm_sI M 174 0 1) ∧ f_Mo_estimate 174 a1 M = some (FP.dconst0, fm_sI M 174 0 1) ∧ f_Mo_rounded 174 a1 M = some (0, fm_sI M 174 0 1) := by
  have e0 : (fm_sI M 174 0 1).1 174 0 = 1 := rfl
  refine ⟨?_, ?_, ?_, ?_⟩
  · unfold f_Mo_rate j_Mo_rate_17
    rw [gi_e cl_174, ob_e, hm, e_out0 (by omega) hv, bd_e, if_neg (by decide), pi_e cl_174, ob_e, gi_e cl_174, ob_e, e0, if_neg (by decide)]
  · unfold f_Mo_share j_Mo_share_17
    rw [gi_e cl_174, ob_e, hm, e_out0 (by omega) hv, bd_e, if_neg (by decide), pi_e cl_174, ob_e, gi_e cl_174, ob_e, e0, if_neg (by decide)]
  · unfold f_Mo_estimate j_Mo_estimate_17
    rw [gi_e cl_174, ob_e, hm, e_out0 (by omega) hv, bd_e, if_neg (by decide), pi_e cl_174, ob_e, gi_e cl_174, ob_e, e0, if_neg (by decide)]
  · unfold f_Mo_rounded j_Mo_rounded_17
    rw [gi_e cl_174, ob_e, hm, e_out0 (by omega) hv, bd_e, if_neg (by decide), pi_e cl_174, ob_e, gi_e cl_174, ob_e, e0, if_neg (by decide)]
theorem p_rate (a1 : Int32) {M : fm_M} (hR : Rel M M) : ∃ M', l_case18 a1 M = some M' ∧ Rel M' M' := by
  have key : ∃ k v, pos32 v ∧ f_Law_rate 0 a1 211 M = some (k, if k = 0 then fm_sD M 211 0 (FP.f2d v) else M) ∧ ∀ M1 : fm_M, pv M M1 → ∃ b, f_Mo_rate 174 a1 M1 = some (b, fm_sI M1 174 0 k) ∧ (k = 0 → b = v) := by
    obtain ⟨n, k, s, h, Ps, hx⟩ := hR
    obtain ⟨hs2, hs, hm, -, -, ⟨-, -, hr⟩, -, -⟩ := hx.2.2.2.2.2.1
    by_cases hv : 0 ≤ a1.toInt ∧ a1.toInt < s
    · obtain ⟨j, -, rfl, hj⟩ := nI_get hv.1
      obtain ⟨r1, r2⟩ := hr j (by omega)
      refine ⟨0, M.2.2.1 18 j, r2, ?_, fun M1 h1 => ⟨M.2.2.1 18 j, ?_, fun _ => rfl⟩⟩
      · unfold f_Law_rate f_AP_rate
        rw [ck_e cl_0, ob_e, ob_e, e_needS1 hs hs2 hv, xd_l, gr_0_4, ob_e, gr_7_4, ob_e, af_n an_18 (by omega) (by decide), ob_e, lt_l, pos_nn64 (pos_f2d r2), ob_e, out_d, ob_e, if_pos rfl]
      · unfold f_Mo_rate j_Mo_rate_17
        rw [gi_e cl_174, ob_e, show M1.1 174 23 = nI s by rw [h1.1]; exact hm, e_out1 (by omega) hv, bd_e, if_pos rfl, pi_e cl_174, ob_e, gi_e cl_174, ob_e, show (fm_sI M1 174 0 0).1 174 0 = 0 from rfl, if_pos (by decide), gr_174_40, ob_e, af_n an_204 (by omega) (by decide), ob_e]
        show some (M1.2.2.1 204 j, _) = _
        rw [h1.2.2, r1]
    · refine ⟨1, 0, pos_0, ?_, fun M1 h1 => ⟨FP.fconst0, (site_bad (by rw [h1.1]; exact hm) hs2 hv).1, fun h9 => absurd h9 (by decide)⟩⟩
      unfold f_Law_rate f_AP_rate
      rw [ck_e cl_0, ob_e, ob_e, e_needS0 hs hs2 hv, xd_r, lt_r, if_pos rfl, if_neg (by decide)]
  obtain ⟨k, v, hv, hC, hM⟩ := key
  exact ask_f (f := f_Law_rate 0 a1 211) (g := f_Mo_rate 174 a1) hR hv hC hM
theorem p_share (a1 : Int32) {M : fm_M} (hR : Rel M M) : ∃ M', l_case19 a1 M = some M' ∧ Rel M' M' := by
  have key : ∃ k v, pos32 v ∧ f_Law_share 0 a1 211 M = some (k, if k = 0 then fm_sD M 211 0 (FP.f2d v) else M) ∧ ∀ M1 : fm_M, pv M M1 → ∃ b, f_Mo_share 174 a1 M1 = some (b, fm_sI M1 174 0 k) ∧ (k = 0 → b = v) := by
    obtain ⟨n, k, s, h, Ps, hx⟩ := hR
    obtain ⟨hs2, hs, hm, -, he, -, -, -⟩ := hx.2.2.2.2.2.1
    have hh := hx.2.2.2.2.2.2.1.1
    by_cases hv : 0 ≤ a1.toInt ∧ a1.toInt < s
    · obtain ⟨j, -, rfl, hj⟩ := nI_get hv.1
      obtain ⟨x, b1, b2, b3⟩ := e_big he hh hs2
      have hmo : ∀ M1 : fm_M, pv M M1 → f_Mo_share 174 (nI j) M1 = if (Op.cmpValue (FP.fcmp (FP.l2f (lN x)) FP.fconst0) .l) ≤ 0 then some (FP.fconst0, fm_sI M1 174 0 0) else (nn32 (FP.fdiv (FP.l2f (M.2.1 202 (3 * j) + M.2.1 202 (3 * j + 1) + M.2.1 202 (3 * j + 2))) (FP.l2f (lN x)))).bind fun _ => some (FP.fdiv (FP.l2f (M.2.1 202 (3 * j) + M.2.1 202 (3 * j + 1) + M.2.1 202 (3 * j + 2))) (FP.l2f (lN x)), fm_sI M1 174 0 0) := by
        intro M1 h1
        have e202 : (fm_sI M1 174 0 0).2.1 202 = M.2.1 202 := h1.2.1 202 (by decide)
        unfold f_Mo_share j_Mo_share_17
        rw [gi_e cl_174, ob_e, show M1.1 174 23 = nI s by rw [h1.1]; exact hm, e_out1 (by omega) hv, bd_e, if_pos rfl, pi_e cl_174, ob_e, gi_e cl_174, ob_e, show (fm_sI M1 174 0 0).1 174 0 = 0 from rfl, if_pos (by decide), ck_e cl_174, ob_e, e_allBytes e202, bd_e, b3, gr_174_38, ob_e, e_moall an_202 (by omega), bd_e, e202]
      by_cases h0 : x = 0
      · refine ⟨0, FP.fconst0, pos_0, ?_, fun M1 h1 => ⟨FP.fconst0, ?_, fun _ => rfl⟩⟩
        · unfold f_Law_share f_AP_share f_Ledger_shareOf
          rw [ck_e cl_0, ob_e, ob_e, e_needS1 hs hs2 hv, xd_l, gr_0_4, ob_e, ck_e cl_7, ob_e, ob_e, e_bytesOfAll he hs hs2, bd_e, b2, h0, if_pos (by decide), bd_e, lt_l, pos_nn64 (pos_f2d (show pos32 FP.fconst0 from pos_0)), ob_e, out_d, ob_e, if_pos rfl]
        · rw [hmo M1 h1, if_pos ((fcmp_0 (by omega)).mpr h0)]
      · obtain ⟨y, y1, y2⟩ : ∃ y, y < 9223372036854775808 ∧ M.2.1 202 (3 * j) + M.2.1 202 (3 * j + 1) + M.2.1 202 (3 * j + 2) = lN y := by
          obtain ⟨p0, q0, -, r0⟩ := he.2.1 0 (by decide) j (by omega)
          obtain ⟨p1, q1, -, r1⟩ := he.2.1 1 (by decide) j (by omega)
          obtain ⟨p2, q2, -, r2⟩ := he.2.1 2 (by decide) j (by omega)
          refine ⟨p0 + p1 + p2, by omega, ?_⟩
          rw [show M.2.1 202 (3 * j) = lN p0 from r0, r1, r2, lN_add, lN_add]
        have hp := pos_div (a := y) (b := x) y1 (by omega) (by omega)
        have hne : ¬ lg_cmp (lN x) 0 = 0 := by
          unfold lg_cmp
          rw [if_pos (show lN x > 0 by rw [gt_iff_lt, Int64.lt_iff_toInt_lt, lt_n (by omega)]; show (0 : Int) < _; omega)]
          decide
        refine ⟨0, FP.fdiv (FP.l2f (lN y)) (FP.l2f (lN x)), hp, ?_, fun M1 h1 => ⟨FP.fdiv (FP.l2f (lN y)) (FP.l2f (lN x)), ?_, fun _ => rfl⟩⟩
        · unfold f_Law_share f_AP_share f_Ledger_shareOf
          rw [ck_e cl_0, ob_e, ob_e, e_needS1 hs hs2 hv, xd_l, gr_0_4, ob_e, ck_e cl_7, ob_e, ob_e, e_bytesOfAll he hs hs2, bd_e, b2, if_neg hne, ob_e, e_bOf1 he (by omega), bd_e, y2, pos_nn hp, ob_e, bd_e, lt_l, pos_nn64 (pos_f2d hp), ob_e, out_d, ob_e, if_pos rfl]
        · rw [hmo M1 h1, if_neg (fun h9 => h0 ((fcmp_0 (by omega)).mp h9)), y2, pos_nn hp, ob_e]
    · refine ⟨1, 0, pos_0, ?_, fun M1 h1 => ⟨FP.fconst0, (site_bad (by rw [h1.1]; exact hm) hs2 hv).2.1, fun h9 => absurd h9 (by decide)⟩⟩
      unfold f_Law_share f_AP_share
      rw [ck_e cl_0, ob_e, ob_e, e_needS0 hs hs2 hv, xd_r, lt_r, if_pos rfl, if_neg (by decide)]
  obtain ⟨k, v, hv, hC, hM⟩ := key
  exact ask_f (f := f_Law_share 0 a1 211) (g := f_Mo_share 174 a1) hR hv hC hM
theorem p_estimate (a1 : Int32) {M : fm_M} (hR : Rel M M) : ∃ M', l_case20 a1 M = some M' ∧ Rel M' M' := by
  have key : ∃ k v, pos64 v ∧ f_Law_estimate 0 a1 211 M = some (k, if k = 0 then fm_sD M 211 0 v else M) ∧ ∀ M1 : fm_M, pv M M1 → ∃ b, f_Mo_estimate 174 a1 M1 = some (b, fm_sI M1 174 0 k) ∧ (k = 0 → b = v) := by
    obtain ⟨n, k, s, h, Ps, hx⟩ := hR
    obtain ⟨hs2, hs, hm, -, he, ⟨-, h2, -⟩, -, -⟩ := hx.2.2.2.2.2.1
    have hh := hx.2.2.2.2.2.2.1.1
    by_cases hv : 0 ≤ a1.toInt ∧ a1.toInt < s
    · obtain ⟨j, -, rfl, hj⟩ := nI_get hv.1
      obtain ⟨v, v1, v2, v3⟩ := e_est he h2 hs hs2 hh (j := j) (by omega)
      refine ⟨0, v, v1, ?_, fun M1 h1 => ⟨v, ?_, fun _ => rfl⟩⟩
      · unfold f_Law_estimate f_AP_estimate
        rw [ck_e cl_0, ob_e, ob_e, e_needS1 hs hs2 hv, xd_l, gr_0_4, ob_e, ck_e cl_7, ob_e, v2, bd_e, lt_l, out_d, ob_e, if_pos rfl]
      · have e23 : (fm_sI M1 174 0 0).1 174 23 = nI s := by rw [sI_r, if_neg (by decide), h1.1]; exact hm
        have e203 : (fm_sI M1 174 0 0).1 203 = M.1 203 := by rw [← h1.1]; exact row_ne (by decide)
        unfold f_Mo_estimate j_Mo_estimate_17
        rw [gi_e cl_174, ob_e, show M1.1 174 23 = nI s by rw [h1.1]; exact hm, e_out1 (by omega) hv, bd_e, if_pos rfl, pi_e cl_174, ob_e, gi_e cl_174, ob_e, show (fm_sI M1 174 0 0).1 174 0 = 0 from rfl, if_pos (by decide), ck_e cl_174, ob_e, v3 _ e23 e203 (h1.2.1 202 (by decide)), bd_e]
    · refine ⟨1, FP.dconst0, pos64_0, ?_, fun M1 h1 => ⟨FP.dconst0, (site_bad (by rw [h1.1]; exact hm) hs2 hv).2.2.1, fun h9 => absurd h9 (by decide)⟩⟩
      unfold f_Law_estimate f_AP_estimate
      rw [ck_e cl_0, ob_e, ob_e, e_needS0 hs hs2 hv, xd_r, lt_r, if_pos rfl, if_neg (by decide)]
  obtain ⟨k, v, hv, hC, hM⟩ := key
  exact ask_dd (f := f_Law_estimate 0 a1 211) (g := f_Mo_estimate 174 a1) hR hv hC hM
theorem p_rounded (a1 : Int32) {M : fm_M} (hR : Rel M M) : ∃ M', l_case21 a1 M = some M' ∧ Rel M' M' := by
  have key : ∃ k v, f_Law_rounded 0 a1 210 M = some (k, if k = 0 then fm_sJ M 210 0 v else M) ∧ ∀ M1 : fm_M, pv M M1 → ∃ b, f_Mo_rounded 174 a1 M1 = some (b, fm_sI M1 174 0 k) ∧ (k = 0 → b = v) := by
    obtain ⟨n, k, s, h, Ps, hx⟩ := hR
    obtain ⟨hs2, hs, hm, -, he, ⟨-, h2, -⟩, -, -⟩ := hx.2.2.2.2.2.1
    have hh := hx.2.2.2.2.2.2.1.1
    by_cases hv : 0 ≤ a1.toInt ∧ a1.toInt < s
    · obtain ⟨j, -, rfl, hj⟩ := nI_get hv.1
      obtain ⟨v, v1, v2, v3⟩ := e_est he h2 hs hs2 hh (j := j) (by omega)
      refine ⟨0, FP.d2l (FP.dadd v 4602678819172646912), ?_, fun M1 h1 => ⟨_, ?_, fun _ => rfl⟩⟩
      · unfold f_Law_rounded f_AP_rounded
        rw [ck_e cl_0, ob_e, ob_e, e_needS1 hs hs2 hv, xd_l, gr_0_4, ob_e, ck_e cl_7, ob_e, v2, bd_e, pos_nn64 (pos_rnd v1), ob_e, lt_l, out_w, ob_e, if_pos rfl]
      · have e23 : (fm_sI M1 174 0 0).1 174 23 = nI s := by rw [sI_r, if_neg (by decide), h1.1]; exact hm
        have e203 : (fm_sI M1 174 0 0).1 203 = M.1 203 := by rw [← h1.1]; exact row_ne (by decide)
        unfold f_Mo_rounded j_Mo_rounded_17
        rw [gi_e cl_174, ob_e, show M1.1 174 23 = nI s by rw [h1.1]; exact hm, e_out1 (by omega) hv, bd_e, if_pos rfl, pi_e cl_174, ob_e, gi_e cl_174, ob_e, show (fm_sI M1 174 0 0).1 174 0 = 0 from rfl, if_pos (by decide), ck_e cl_174, ob_e, v3 _ e23 e203 (h1.2.1 202 (by decide)), bd_e, pos_nn64 (pos_rnd v1), ob_e]
    · refine ⟨1, 0, ?_, fun M1 h1 => ⟨0, (site_bad (by rw [h1.1]; exact hm) hs2 hv).2.2.2, fun h9 => absurd h9 (by decide)⟩⟩
      unfold f_Law_rounded f_AP_rounded
      rw [ck_e cl_0, ob_e, ob_e, e_needS0 hs hs2 hv, xd_r, lt_r, if_pos rfl, if_neg (by decide)]
  obtain ⟨k, v, hC, hM⟩ := key
  exact ask_j (f := f_Law_rounded 0 a1 210) (g := f_Mo_rounded 174 a1) hR hC hM
