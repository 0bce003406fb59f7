/-! range, exclude, length, code, site -/
theorem tail_v {k : Int32} {M : fm_M} (h1 : M.1 174 0 = k) : ((ck 174 10).bind fun _ => bd (f_Mo_thrown 174 M) fun x110 M108 => if x110 = k then some M108 else none) = some M := by
  rw [ck_e cl_174, ob_e]
  unfold f_Mo_thrown
  rw [gi_e cl_174, ob_e, bd_e, if_pos h1]
theorem p_range (a1 a2 a3 : Int32) {M : fm_M} (hR : Rel M M) : ∃ M', l_case3 a1 a2 a3 M = some M' ∧ Rel M' M' := by
  obtain ⟨n, k, s, h, Ps, hx⟩ := hR
  obtain ⟨l, r, hl, hr, hcr, ho⟩ := hx.2.2.1
  obtain ⟨c1, c2, c3, c4, c5, c6⟩ := hcr
  by_cases hf : r < 2
  · have hC : f_Law_range 0 a1 a2 a3 210 M = some (0, fm_sJ (m_appr 165 r a1 a2 a3 M) 210 0 (nI (r + 1)).toInt64) := by
      unfold f_Law_range f_AP_range
      rw [ck_e cl_0, ob_e, gr_0_5, ob_e, ck_e cl_165, ob_e, e_call0 cd_d c3 hf, bd_e, if_pos rfl, ob_e, ck_e cl_165, ob_e, e_appr cd_d c3 hf, bd_e, lt_l, out_w, ob_e]
    generalize hM1 : fm_sJ (m_appr 165 r a1 a2 a3 M) 210 0 (nI (r + 1)).toInt64 = M1 at hC
    have d1 : ∀ j, M1.1 174 j = M.1 174 j := by
      intro j
      rw [← hM1]
      simp [m_appr, sJ_1, sI_r]
    have hD : f_Mo_range 174 a1 a2 a3 M1 = some (nI (r + 1), fm_sI (fm_sI (fm_sI (fm_sI (fm_sI M1 174 0 0) 179 (3 * r) a1) 179 (3 * r + 1) a2) 179 (3 * r + 2) a3) 174 7 (nI (r + 1))) := by
      unfold f_Mo_range
      rw [gi_e cl_174, ob_e, d1 7, c4, if_neg (fun h9 => by have := (nI_eq (a := r) (b := 2) (by omega) (by omega)).mp h9; omega)]
      unfold j_Mo_range_14
      rw [pi_e cl_174, ob_e, gi_e cl_174, ob_e, show (fm_sI M1 174 0 0).1 174 0 = 0 from rfl, if_pos (by decide), gr_174_8, ob_e, gi_e cl_174, ob_e, show (fm_sI M1 174 0 0).1 174 7 = nI r from (d1 7).trans c4, show (3 : Int32) * nI r = nI (3 * r) from nI_mul 3 r, si_n an_179 (by omega) (by decide), ob_e, ob_e, gi_e cl_174, ob_e, show (fm_sI (fm_sI M1 174 0 0) 179 (3 * r) a1).1 174 7 = nI r from (d1 7).trans c4, show (3 : Int32) * nI r = nI (3 * r) from nI_mul 3 r, show nI (3 * r) + 1 = nI (3 * r + 1) from nI_add _ 1, si_n an_179 (by omega) (by decide), ob_e, ob_e, gi_e cl_174, ob_e, show (fm_sI (fm_sI (fm_sI M1 174 0 0) 179 (3 * r) a1) 179 (3 * r + 1) a2).1 174 7 = nI r from (d1 7).trans c4, show (3 : Int32) * nI r = nI (3 * r) from nI_mul 3 r, show nI (3 * r) + 2 = nI (3 * r + 2) from nI_add _ 2, si_n an_179 (by omega) (by decide), ob_e, gi_e cl_174, ob_e, show (fm_sI (fm_sI (fm_sI (fm_sI M1 174 0 0) 179 (3 * r) a1) 179 (3 * r + 1) a2) 179 (3 * r + 2) a3).1 174 7 = nI r from (d1 7).trans c4, nI_1, pi_e cl_174, ob_e, gi_e cl_174, ob_e]
      rfl
    generalize hM2 : fm_sI (fm_sI (fm_sI (fm_sI (fm_sI M1 174 0 0) 179 (3 * r) a1) 179 (3 * r + 1) a2) 179 (3 * r + 2) a3) 174 7 (nI (r + 1)) = M2 at hD
    refine ⟨M2, ?_, n, k, s, h, Ps, ?_⟩
    · unfold l_case3
      rw [hC, bd_e, ck_e cl_174, ob_e, hD, bd_e]
      exact tail_i (by rw [← hM2]; rfl) (fun _ => by rw [← hM2, ← hM1]; rfl)
    · have f0 : ∀ q, ¬ (q = 165 ∨ q = 166 ∨ q = 167 ∨ q = 168 ∨ q = 174 ∨ q = 179) → M2.1 q = M.1 q := by
        intro q hq
        rw [← hM2, ← hM1]
        funext z
        simp only [m_appr, sI_r, sJ_1]
        rw [if_neg (by omega), if_neg (by omega), if_neg (by omega), if_neg (by omega), if_neg (by omega), if_neg (by omega), if_neg (by omega), if_neg (by omega), if_neg (by omega)]
      have f1 : ∀ z, ¬ (z = 0 ∨ z = 7) → M2.1 174 z = M.1 174 z := by
        intro z hz
        rw [← hM2]
        simp only [sI_r]
        rw [if_neg (by omega), if_neg (by omega), if_neg (by omega), if_neg (by omega), if_neg (by omega), d1]
      have f2 : ∀ q, ¬ (q = 210) → M2.2.1 q = M.2.1 q := by
        intro q hq
        rw [← hM2, ← hM1]
        funext z
        simp only [m_appr, sI_2, sJ_r]
        rw [if_neg (by omega)]
      have f3 : ∀ q, ¬ (q = 1000) → M2.2.2.1 q = M.2.2.1 q := by
        intro q _
        rw [← hM2, ← hM1]
        rfl
      have g1 : M2.1 165 5 = M.1 165 5 := by rw [← hM2, ← hM1]; rfl
      have g2 : M2.1 174 7 = nI (r + 1) := by rw [← hM2]; rfl
      have g3 : M2.1 165 6 = nI (r + 1) := by rw [← hM2, ← hM1]; rfl
      have g4 : ∀ z, M2.1 166 z = if z = r then a1 else M.1 166 z := by intro z; rw [← hM2, ← hM1]; simp [m_appr, sI_r, sJ_1]
      have g5 : ∀ z, M2.1 167 z = if z = r then a2 else M.1 167 z := by intro z; rw [← hM2, ← hM1]; simp [m_appr, sI_r, sJ_1]
      have g6 : ∀ z, M2.1 168 z = if z = r then a3 else M.1 168 z := by intro z; rw [← hM2, ← hM1]; simp [m_appr, sI_r, sJ_1]
      have g7 : ∀ z, M2.1 179 z = if z = 3 * r + 2 then a3 else if z = 3 * r + 1 then a2 else if z = 3 * r then a1 else M.1 179 z := by intro z; rw [← hM2, ← hM1]; simp [m_appr, sI_r, sJ_1]
      obtain ⟨xa, xb, xc, xd, xe, xf, xg, xh, xi⟩ := hx
      refine ⟨(RA_c xa (f0 0 (by omega)) (fun j a b => f1 j (by omega))), (RB_c xb (f0 2 (by omega)) (f0 3 (by omega)) (f1 1 (by omega)) (f0 175 (by omega)) (f0 176 (by omega))), ⟨l, r + 1, hl, by omega, ⟨g1.trans c1, (f1 4 (by omega)).trans c2, g3, g2, fun i hi => ?_, fun i hi => ?_⟩, fun i hi => ?_⟩, (RD_c xd xa.1 (fun q a b => f0 q (by omega)) (fun q a b => f0 q (by omega))), (RX_c xe (fun m hm => by rw [f0 (24 + 15 * m) (by omega)]) (f0 180 (by omega))), (RE_c xf (by rw [f0 0 (by omega)]) (f0 7 (by omega)) (fun q a b => ⟨f0 q (by omega), f2 q (by omega), f3 q (by omega)⟩) (f1 23 (by omega)) (f1 42 (by omega)) (f1 44 (by omega)) (fun q a b => ⟨f0 q (by omega), f2 q (by omega), f3 q (by omega)⟩)), (RF_c xg (f0 5 (by omega)) (f0 6 (by omega)) (f1 35 (by omega)) (f0 200 (by omega))), (RG_c xh (f0 1 (by omega)) (f1 33 (by omega)) (f1 34 (by omega))), (RS_c xi xa.1 (by rw [f0 0 (by omega)]) (fun m hm => f0 _ (by omega)) (fun q a b => f0 q (by omega)) (fun q a b => f0 q (by omega)))⟩
      · show M2.1 169 i = M2.1 177 (0 + i) ∧ M2.1 170 i = M2.1 178 (0 + i)
        rw [f0 169 (by omega), f0 170 (by omega), f0 177 (by omega), f0 178 (by omega)]
        exact c5 i hi
      · show M2.1 166 i = M2.1 179 (0 + 3 * i) ∧ M2.1 167 i = M2.1 179 (0 + 3 * i + 1) ∧ M2.1 168 i = M2.1 179 (0 + 3 * i + 2)
        rw [Nat.zero_add, g4, g5, g6, g7, g7, g7]
        by_cases hz : i = r
        · subst hz
          rw [if_pos rfl, if_pos rfl, if_pos rfl, if_neg (by omega), if_neg (by omega), if_pos rfl, if_neg (by omega), if_pos rfl, if_pos rfl]
          exact ⟨rfl, rfl, rfl⟩
        · rw [if_neg hz, if_neg hz, if_neg hz, if_neg (by omega), if_neg (by omega), if_neg (by omega), if_neg (by omega), if_neg (by omega), if_neg (by omega), if_neg (by omega), if_neg (by omega), if_neg (by omega)]
          have := c6 i (by omega)
          rw [Nat.zero_add] at this
          exact this
      · rw [f0 169 (by omega)]
        exact ho i hi
  · have hr2 : r = 2 := by omega
    subst hr2
    have hC : f_Law_range 0 a1 a2 a3 210 M = some (1, M) := by
      unfold f_Law_range f_AP_range
      rw [ck_e cl_0, ob_e, gr_0_5, ob_e, ck_e cl_165, ob_e, e_call1 cd_d c3 (by decide) (by decide), bd_e, if_neg (by decide), lt_r, if_pos rfl]
    have hD : f_Mo_range 174 a1 a2 a3 M = some (0, fm_sI M 174 0 1) := by
      unfold f_Mo_range
      rw [gi_e cl_174, ob_e, c4, if_pos (show nI 2 = 2 from rfl)]
      unfold j_Mo_range_14
      rw [pi_e cl_174, ob_e, gi_e cl_174, ob_e, show (fm_sI M 174 0 1).1 174 0 = 1 from rfl, if_neg (by decide)]
    refine ⟨fm_sI M 174 0 1, ?_, n, k, s, h, Ps, Rx_c hx (eqC_I (by decide)) (eqM_t _ _)⟩
    unfold l_case3
    rw [hC, bd_e, ck_e cl_174, ob_e, hD, bd_e]
    exact tail_i rfl (fun h9 => absurd h9 (by decide))
theorem e_needM1 {x : Int32} {n : Nat} {M : fm_M} (hn : M.1 0 7 = nI n) (h6 : n ≤ 6) (h : 0 ≤ x.toInt ∧ x.toInt < n) : f_AP_needMethod 0 x M = some (.inl (), M) := by
  unfold f_AP_needMethod
  rw [if_neg (fun h9 => by have := lt0.mp h9; omega), gi_e cl_0, ob_e, hn, if_pos ((ltn (by omega)).mpr h.2)]
theorem e_needM0 {x : Int32} {n : Nat} {M : fm_M} (hn : M.1 0 7 = nI n) (h6 : n ≤ 6) (h : ¬ (0 ≤ x.toInt ∧ x.toInt < n)) : f_AP_needMethod 0 x M = some (.inr "java/lang/IllegalArgumentException", M) := by
  unfold f_AP_needMethod j_AP_needMethod_12
  by_cases h1 : x < 0
  · rw [if_pos h1]
  · rw [if_neg h1, gi_e cl_0, ob_e, hn, if_neg (fun h9 => h ⟨by rw [lt0] at h1; omega, (ltn (by omega)).mp h9⟩)]
theorem p_exclude (a1 : Int32) {M : fm_M} (hR : Rel M M) : ∃ M', l_case6 a1 M = some M' ∧ Rel M' M' := by
  obtain ⟨n, k, s, h, Ps, hx⟩ := hR
  obtain ⟨hn6, hn, hmn, -, hw, hw2⟩ := hx.1
  by_cases hv : 0 ≤ a1.toInt ∧ a1.toInt < n
  · obtain ⟨m, -, rfl, hm⟩ := nI_get hv.1
    have hm6 : m < 6 := by omega
    by_cases hww : M.1 0 9 = 0
    · have hC : f_Law_exclude 0 (nI m) M = some (0, fm_sI M (24 + 15 * m) 4 1) := by
        unfold f_Law_exclude f_AP_exclude
        rw [ck_e cl_0, ob_e, ob_e, e_needM1 hn hn6 hv, xd_l, gi_e cl_0, ob_e, if_pos hww, gr_0_2, ob_e, ar_m m hm6, ob_e, pi_e (cl_m m hm6), ob_e, lt_l]
      have hD : f_Mo_exclude 174 (nI m) (fm_sI M (24 + 15 * m) 4 1) = some (fm_sI (fm_sI (fm_sI M (24 + 15 * m) 4 1) 174 0 0) 180 m 1) := by
        unfold f_Mo_exclude
        have d9 : (fm_sI M (24 + 15 * m) 4 1).1 174 9 = nI n := by rw [sI_r, if_neg (by omega)]; exact hmn
        have d11 : (fm_sI M (24 + 15 * m) 4 1).1 174 11 = 0 := by rw [sI_r, if_neg (by omega)]; exact hw.symm.trans hww
        rw [gi_e cl_174, ob_e, d9, e_out1 (by omega) hv, bd_e, if_pos rfl, gi_e cl_174, ob_e, d11, if_pos rfl]
        unfold j_Mo_exclude_28
        rw [pi_e cl_174, ob_e, gi_e cl_174, ob_e, show (fm_sI (fm_sI M (24 + 15 * m) 4 1) 174 0 0).1 174 0 = 0 from rfl, if_pos rfl, gr_174_12, ob_e, sz_n an_180 hm6 (by decide), ob_e]
      generalize hM2 : fm_sI (fm_sI (fm_sI M (24 + 15 * m) 4 1) 174 0 0) 180 m 1 = M2 at hD
      refine ⟨M2, ?_, n, k, s, h, Ps, ?_⟩
      · unfold l_case6
        rw [hC, bd_e, ck_e cl_174, ob_e, hD, ob_e]
        exact tail_v (by rw [← hM2]; rfl)
      · have f0 : ∀ q, ¬ (q = 24 + 15 * m ∨ q = 174 ∨ q = 180) → M2.1 q = M.1 q := by
          intro q hq
          rw [← hM2]
          funext z
          simp only [sI_r]
          rw [if_neg (by omega), if_neg (by omega), if_neg (by omega)]
        have f1 : ∀ z, ¬ (z = 0) → M2.1 174 z = M.1 174 z := by
          intro z hz
          rw [← hM2]
          simp only [sI_r]
          rw [if_neg (by omega), if_neg (by omega), if_neg (by omega)]
        have f2 : ∀ q, ¬ (q = 1000) → M2.2.1 q = M.2.1 q := fun q _ => by rw [← hM2]; rfl
        have f3 : ∀ q, ¬ (q = 1000) → M2.2.2.1 q = M.2.2.1 q := fun q _ => by rw [← hM2]; rfl
        have g1 : ∀ j, j < 6 → M2.1 (24 + 15 * j) 4 = if j = m then 1 else M.1 (24 + 15 * j) 4 := by
          intro j hj
          rw [← hM2]
          simp only [sI_r]
          rw [if_neg (by omega), if_neg (by omega)]
          by_cases hjm : j = m
          · subst hjm
            rw [if_pos (by simp), if_pos rfl]
          · rw [if_neg (by omega), if_neg hjm]
        have g2 : ∀ j, M2.1 180 j = if j = m then 1 else M.1 180 j := by
          intro j
          rw [← hM2]
          simp only [sI_r]
          by_cases hjm : j = m
          · subst hjm
            rw [if_pos (by simp), if_pos rfl]
          · rw [if_neg (by omega), if_neg (by omega), if_neg (by omega), if_neg hjm]
        obtain ⟨xa, xb, xc, xd, xe, xf, xg, xh, xi⟩ := hx
        refine ⟨(RA_c xa (f0 0 (by omega)) (fun j a b => f1 j (by omega))), (RB_c xb (f0 2 (by omega)) (f0 3 (by omega)) (f1 1 (by omega)) (f0 175 (by omega)) (f0 176 (by omega))), (RC_c xc (fun q a b => f0 q (by omega)) (f1 4 (by omega)) (f1 7 (by omega)) (fun q a b => f0 q (by omega))), fun j hj => RM_c (xd j hj) (fun q a b => f0 q (by omega)) (fun q a b => f0 q (by omega)), fun j hj => ?_, (RE_c xf (by rw [f0 0 (by omega)]) (f0 7 (by omega)) (fun q a b => ⟨f0 q (by omega), f2 q (by omega), f3 q (by omega)⟩) (f1 23 (by omega)) (f1 42 (by omega)) (f1 44 (by omega)) (fun q a b => ⟨f0 q (by omega), f2 q (by omega), f3 q (by omega)⟩)), (RF_c xg (f0 5 (by omega)) (f0 6 (by omega)) (f1 35 (by omega)) (f0 200 (by omega))), (RG_c xh (f0 1 (by omega)) (f1 33 (by omega)) (f1 34 (by omega))), (RS_c xi xa.1 (by rw [f0 0 (by omega)]) (fun m hm => f0 _ (by omega)) (fun q a b => f0 q (by omega)) (fun q a b => f0 q (by omega)))⟩
        rw [g1 j hj, g2 j]
        by_cases hjm : j = m
        · rw [if_pos hjm, if_pos hjm]
          exact ⟨rfl, Or.inr rfl⟩
        · rw [if_neg hjm, if_neg hjm]
          exact xe j hj
    · have hC : f_Law_exclude 0 (nI m) M = some (2, M) := by
        unfold f_Law_exclude f_AP_exclude
        rw [ck_e cl_0, ob_e, ob_e, e_needM1 hn hn6 hv, xd_l, gi_e cl_0, ob_e, if_neg hww, lt_r, if_neg (by decide), if_pos rfl]
      have hD : f_Mo_exclude 174 (nI m) M = some (fm_sI M 174 0 2) := by
        unfold f_Mo_exclude
        rw [gi_e cl_174, ob_e, hmn, e_out1 (by omega) hv, bd_e, if_pos rfl, gi_e cl_174, ob_e, if_neg (fun h9 => hww (hw.trans h9))]
        unfold j_Mo_exclude_28
        rw [pi_e cl_174, ob_e, gi_e cl_174, ob_e, show (fm_sI M 174 0 2).1 174 0 = 2 from rfl, if_neg (by decide)]
      refine ⟨fm_sI M 174 0 2, ?_, n, k, s, h, Ps, Rx_c hx (eqC_I (by decide)) (eqM_t _ _)⟩
      unfold l_case6
      rw [hC, bd_e, ck_e cl_174, ob_e, hD, ob_e]
      exact tail_v rfl
  · have hC : f_Law_exclude 0 a1 M = some (1, M) := by
      unfold f_Law_exclude f_AP_exclude
      rw [ck_e cl_0, ob_e, ob_e, e_needM0 hn hn6 hv, xd_r, lt_r, if_pos rfl]
    have hD : f_Mo_exclude 174 a1 M = some (fm_sI M 174 0 1) := by
      unfold f_Mo_exclude
      rw [gi_e cl_174, ob_e, hmn, e_out0 (by omega) hv, bd_e, if_neg (by decide)]
      unfold j_Mo_exclude_28
      rw [pi_e cl_174, ob_e, gi_e cl_174, ob_e, show (fm_sI M 174 0 1).1 174 0 = 1 from rfl, if_neg (by decide)]
    refine ⟨fm_sI M 174 0 1, ?_, n, k, s, h, Ps, Rx_c hx (eqC_I (by decide)) (eqM_t _ _)⟩
    unfold l_case6
    rw [hC, bd_e, ck_e cl_174, ob_e, hD, ob_e]
    exact tail_v rfl
/-- a call that only asks: the class answers k, the reference too -/
theorem ask_i {f : fm_M → Option (Int32 × fm_M)} {g : fm_M → Option (Int32 × fm_M)} {M : fm_M} (hR : Rel M M) {k v : Int32} (hC : f M = some (k, if k = 0 then fm_sJ M 210 0 v.toInt64 else M)) (hM : ∀ M1 : fm_M, M1.1 = M.1 → (∀ q, q < 210 → M1.2.1 q = M.2.1 q) → M1.2.2 = M.2.2 → ∃ b, g M1 = some (b, fm_sI M1 174 0 k) ∧ (k = 0 → b = v)) :
    ∃ M', (bd (f M) fun x101 M102 => (ck 174 10).bind fun _ => bd (g M102) fun x107 M105 => (ck 174 10).bind fun _ => bd (f_Mo_thrown 174 M105) fun x111 M109 => if x111 = x101 then if x101 = 0 then (aj 210 0 M109).bind fun x114 => if (lg_cmp x114 x107.toInt64) = 0 then some M109 else none else some M109 else none) = some M' ∧ Rel M' M' := by
  rw [hC, bd_e, ck_e cl_174, ob_e]
  by_cases hk : k = 0
  · rw [if_pos hk]
    obtain ⟨b, h1, h2⟩ := hM (fm_sJ M 210 0 v.toInt64) rfl (fun q hq => fm_u_ne (by omega)) rfl
    refine ⟨fm_sI (fm_sJ M 210 0 v.toInt64) 174 0 k, ?_, Rel_c hR (eqC_tr (eqC_J (by decide)) (eqC_I (by decide))) (eqM_tr (eqM_J (Or.inr (by decide))) (eqM_t _ _))⟩
    rw [h1, bd_e]
    exact tail_i rfl (fun _ => by rw [h2 hk]; rfl)
  · rw [if_neg hk]
    obtain ⟨b, h1, h2⟩ := hM M rfl (fun _ _ => rfl) rfl
    refine ⟨fm_sI M 174 0 k, ?_, Rel_c hR (eqC_I (by decide)) (eqM_t _ _)⟩
    rw [h1, bd_e]
    exact tail_i rfl (fun h9 => absurd h9 hk)
theorem sI_same (M : fm_M) (a b : Int32) : fm_sI (fm_sI M 174 0 a) 174 0 b = fm_sI M 174 0 b := by
  have h : fm_u (fm_u M.1 174 0 a) 174 0 b = fm_u M.1 174 0 b := by
    funext i j
    simp only [fm_u]
    by_cases h : i = 174 ∧ j = 0
    · rw [if_pos h, if_pos h]
    · rw [if_neg h, if_neg h, if_neg h]
  show (fm_u (fm_u M.1 174 0 a) 174 0 b, M.2) = _
  rw [h]
  rfl
