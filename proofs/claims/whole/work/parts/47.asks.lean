/-! length, code, site: what the methods are -/
theorem p_length (a1 a2 : Int32) {M : fm_M} (hR : Rel M M) : ∃ M', l_case8 a1 a2 M = some M' ∧ Rel M' M' := by
  have key : ∀ w : Int32, ∃ k v, f_Law_length 0 a1 w 210 M = some (k, if k = 0 then fm_sJ M 210 0 (Int32.toInt64 v) else M) ∧ ∀ M1 : fm_M, M1.1 = M.1 → (∀ q, q < 210 → M1.2.1 q = M.2.1 q) → M1.2.2 = M.2.2 → ∃ b, f_Mo_length 174 a1 w M1 = some (b, fm_sI M1 174 0 k) ∧ (k = 0 → b = v) := by
    intro w
    obtain ⟨n, k, s, h, Ps, hx⟩ := hR
    obtain ⟨hn6, hn, hmn, -, -, -⟩ := hx.1
    by_cases hv : 0 ≤ a1.toInt ∧ a1.toInt < n
    · obtain ⟨m, -, rfl, hm⟩ := nI_get hv.1
      have hm6 : m < 6 := by omega
      obtain ⟨l, r, wl, -, -, -, ⟨o1, o2, -⟩, ⟨w1, w2, -⟩, -⟩ := hx.2.2.2.1 m (by omega)
      by_cases hw : w = 0
      · refine ⟨0, nI l, ?_, fun M1 h1 _ _ => ⟨nI l, ?_, fun _ => rfl⟩⟩
        · unfold f_Law_length f_AP_length
          rw [ck_e cl_0, ob_e, ob_e, e_needM1 hn hn6 hv, xd_l, if_pos hw, gr_0_2, ob_e, ar_m m hm6, ob_e, gr_m0 m hm6, ob_e, gi_e (cd_o m hm6).1, ob_e, lt_l, o1, out_w, ob_e, if_pos rfl]
        · have e9 : (fm_sI M1 174 0 0).1 174 9 = nI n := by rw [sI_r, if_neg (by decide), h1]; exact hmn
          have e181 : (fm_sI M1 174 0 0).1 181 m = nI l := by rw [sI_r, if_neg (by omega), h1]; exact o2
          unfold f_Mo_length
          rw [pi_e cl_174, ob_e, gi_e cl_174, ob_e, e9, e_out1 (by omega) hv, bd_e, if_pos rfl, if_pos hw, gr_174_13, ob_e, ai_n an_181 hm6 (by decide), ob_e, e181]
      · refine ⟨0, nI wl, ?_, fun M1 h1 _ _ => ⟨nI wl, ?_, fun _ => rfl⟩⟩
        · unfold f_Law_length f_AP_length
          rw [ck_e cl_0, ob_e, ob_e, e_needM1 hn hn6 hv, xd_l, if_neg hw, gr_0_2, ob_e, ar_m m hm6, ob_e, gr_m1 m hm6, ob_e, gi_e (cd_w m hm6).1, ob_e, lt_l, w1, out_w, ob_e, if_pos rfl]
        · have e9 : (fm_sI M1 174 0 0).1 174 9 = nI n := by rw [sI_r, if_neg (by decide), h1]; exact hmn
          have e186 : (fm_sI M1 174 0 0).1 186 m = nI wl := by rw [sI_r, if_neg (by omega), h1]; exact w2
          unfold f_Mo_length
          rw [pi_e cl_174, ob_e, gi_e cl_174, ob_e, e9, e_out1 (by omega) hv, bd_e, if_pos rfl, if_neg hw, gr_174_18, ob_e, ai_n an_186 hm6 (by decide), ob_e, e186]
    · refine ⟨1, 0, ?_, fun M1 h1 _ _ => ⟨0, ?_, fun h9 => absurd h9 (by decide)⟩⟩
      · unfold f_Law_length f_AP_length
        rw [ck_e cl_0, ob_e, ob_e, e_needM0 hn hn6 hv, xd_r, lt_r, if_pos rfl, if_neg (by decide)]
      · have e9 : (fm_sI M1 174 0 0).1 174 9 = nI n := by rw [sI_r, if_neg (by decide), h1]; exact hmn
        unfold f_Mo_length
        rw [pi_e cl_174, ob_e, gi_e cl_174, ob_e, e9, e_out0 (by omega) hv, bd_e, if_neg (by decide), ck_e cl_174, ob_e, e_mfail, bd_e, sI_same]
  unfold l_case8
  by_cases hw : a2 = 0
  · rw [if_pos hw]
    obtain ⟨k, v, hC, hM⟩ := key 0
    have := ask_i (f := f_Law_length 0 a1 0 210) (g := f_Mo_length 174 a1 0) hR hC hM
    simp only [if_pos hw]
    exact this
  · rw [if_neg hw]
    obtain ⟨k, v, hC, hM⟩ := key 1
    have := ask_i (f := f_Law_length 0 a1 1 210) (g := f_Mo_length 174 a1 1) hR hC hM
    simp only [if_neg hw]
    exact this
theorem p_site (a1 a2 : Int32) {M : fm_M} (hR : Rel M M) : ∃ M', l_case10 a1 a2 M = some M' ∧ Rel M' M' := by
  have key : ∃ k v, f_Law_site 0 a1 a2 210 M = some (k, if k = 0 then fm_sJ M 210 0 (Int32.toInt64 v) else M) ∧ ∀ M1 : fm_M, M1.1 = M.1 → (∀ q, q < 210 → M1.2.1 q = M.2.1 q) → M1.2.2 = M.2.2 → ∃ b, f_Mo_site 174 a1 a2 M1 = some (b, fm_sI M1 174 0 k) ∧ (k = 0 → b = v) := by
    obtain ⟨n, k, s, h, Ps, hx⟩ := hR
    obtain ⟨hn6, hn, hmn, -, -, -⟩ := hx.1
    by_cases hv : 0 ≤ a1.toInt ∧ a1.toInt < n
    · obtain ⟨m, -, rfl, hm⟩ := nI_get hv.1
      have hm6 : m < 6 := by omega
      obtain ⟨l, r, wl, l24, -, -, ⟨o1, o2, -⟩, -, -, -, hs⟩ := hx.2.2.2.1 m (by omega)
      by_cases hi : 0 ≤ a2.toInt ∧ a2.toInt < l
      · obtain ⟨i, -, rfl, hii⟩ := nI_get hi.1
        obtain ⟨s1, s2⟩ := hs i (by omega)
        by_cases hn1 : M.1 (37 + 15 * m) i = -1
        · refine ⟨2, 0, ?_, fun M1 h1 _ _ => ⟨0, ?_, fun h9 => absurd h9 (by decide)⟩⟩
          · unfold f_Law_site f_AP_site
            rw [ck_e cl_0, ob_e, ob_e, e_needM1 hn hn6 hv, xd_l, gr_0_2, ob_e, ar_m m hm6, ob_e, gr_m0 m hm6, ob_e, ck_e (cd_o m hm6).1, ob_e, e_chas1 (cd_o m hm6) o1 (by omega) hi, bd_e, if_neg (by decide), ob_e, ar_m m hm6, ob_e, gr_m2 m hm6, ob_e, ai_n (an_m2 m hm6) (by omega) (by decide), ob_e, if_pos hn1, lt_r, if_neg (by decide), if_pos rfl, if_neg (by decide)]
          · have e9 : (fm_sI M1 174 0 0).1 174 9 = nI n := by rw [sI_r, if_neg (by decide), h1]; exact hmn
            have e181 : (fm_sI M1 174 0 0).1 181 m = nI l := by rw [sI_r, if_neg (by omega), h1]; exact o2
            have e190 : (fm_sI M1 174 0 0).1 190 (24 * m + i) = -1 := by rw [sI_r, if_neg (by omega), h1]; exact s1.symm.trans hn1
            unfold f_Mo_site
            rw [pi_e cl_174, ob_e, gi_e cl_174, ob_e, e9, e_out1 (by omega) hv, bd_e, if_pos rfl, gr_174_13, ob_e, ai_n an_181 hm6 (by decide), ob_e, e181, e_out1 (by omega) hi, bd_e, if_pos rfl, gr_174_22, ob_e, show (24 : Int32) * nI m = nI (24 * m) from nI_mul 24 m, nI_add, ai_n an_190 (by omega) (by decide), ob_e, e190, if_neg (by decide), ck_e cl_174, ob_e, e_mfail, bd_e, sI_same]
        · have s3 : 0 ≤ (M.1 (37 + 15 * m) i).toInt := by rcases s2 with h9 | h9; exact absurd h9 hn1; exact h9
          refine ⟨0, M.1 (37 + 15 * m) i, ?_, fun M1 h1 _ _ => ⟨M.1 (37 + 15 * m) i, ?_, fun _ => rfl⟩⟩
          · unfold f_Law_site f_AP_site
            rw [ck_e cl_0, ob_e, ob_e, e_needM1 hn hn6 hv, xd_l, gr_0_2, ob_e, ar_m m hm6, ob_e, gr_m0 m hm6, ob_e, ck_e (cd_o m hm6).1, ob_e, e_chas1 (cd_o m hm6) o1 (by omega) hi, bd_e, if_neg (by decide), ob_e, ar_m m hm6, ob_e, gr_m2 m hm6, ob_e, ai_n (an_m2 m hm6) (by omega) (by decide), ob_e, if_neg hn1, lt_l, out_w, ob_e, if_pos rfl]
          · have e9 : (fm_sI M1 174 0 0).1 174 9 = nI n := by rw [sI_r, if_neg (by decide), h1]; exact hmn
            have e181 : (fm_sI M1 174 0 0).1 181 m = nI l := by rw [sI_r, if_neg (by omega), h1]; exact o2
            have e190 : (fm_sI M1 174 0 0).1 190 (24 * m + i) = M.1 (37 + 15 * m) i := by rw [sI_r, if_neg (by omega), h1]; exact s1.symm
            unfold f_Mo_site
            rw [pi_e cl_174, ob_e, gi_e cl_174, ob_e, e9, e_out1 (by omega) hv, bd_e, if_pos rfl, gr_174_13, ob_e, ai_n an_181 hm6 (by decide), ob_e, e181, e_out1 (by omega) hi, bd_e, if_pos rfl, gr_174_22, ob_e, show (24 : Int32) * nI m = nI (24 * m) from nI_mul 24 m, nI_add, ai_n an_190 (by omega) (by decide), ob_e, e190, if_pos (show 0 ≤ M.1 (37 + 15 * m) i by rw [Int32.le_iff_toInt_le]; exact s3), ob_e, ai_n an_190 (by omega) (by decide), ob_e, e190]
      · refine ⟨1, 0, ?_, fun M1 h1 _ _ => ⟨0, ?_, fun h9 => absurd h9 (by decide)⟩⟩
        · unfold f_Law_site f_AP_site
          rw [ck_e cl_0, ob_e, ob_e, e_needM1 hn hn6 hv, xd_l, gr_0_2, ob_e, ar_m m hm6, ob_e, gr_m0 m hm6, ob_e, ck_e (cd_o m hm6).1, ob_e, e_chas0 (cd_o m hm6) o1 (by omega) hi, bd_e, if_pos rfl, lt_r, if_pos rfl, if_neg (by decide)]
        · have e9 : (fm_sI M1 174 0 0).1 174 9 = nI n := by rw [sI_r, if_neg (by decide), h1]; exact hmn
          have e181 : (fm_sI M1 174 0 0).1 181 m = nI l := by rw [sI_r, if_neg (by omega), h1]; exact o2
          unfold f_Mo_site j_Mo_site_29
          rw [pi_e cl_174, ob_e, gi_e cl_174, ob_e, e9, e_out1 (by omega) hv, bd_e, if_pos rfl, gr_174_13, ob_e, ai_n an_181 hm6 (by decide), ob_e, e181, e_out0 (by omega) hi, bd_e, if_neg (by decide), ck_e cl_174, ob_e, e_mfail, bd_e, sI_same]
    · refine ⟨1, 0, ?_, fun M1 h1 _ _ => ⟨0, ?_, fun h9 => absurd h9 (by decide)⟩⟩
      · unfold f_Law_site f_AP_site
        rw [ck_e cl_0, ob_e, ob_e, e_needM0 hn hn6 hv, xd_r, lt_r, if_pos rfl, if_neg (by decide)]
      · have e9 : (fm_sI M1 174 0 0).1 174 9 = nI n := by rw [sI_r, if_neg (by decide), h1]; exact hmn
        unfold f_Mo_site j_Mo_site_29
        rw [pi_e cl_174, ob_e, gi_e cl_174, ob_e, e9, e_out0 (by omega) hv, bd_e, if_neg (by decide), ck_e cl_174, ob_e, e_mfail, bd_e, sI_same]
  obtain ⟨k, v, hC, hM⟩ := key
  exact ask_i (f := f_Law_site 0 a1 a2 210) (g := f_Mo_site 174 a1 a2) hR hC hM
