/-! code -/
theorem p_code (a1 a2 a3 : Int32) {M : fm_M} (hR : Rel M M) : ∃ M', l_case9 a1 a2 a3 M = some M' ∧ Rel M' M' := by
  have key : ∃ k v, f_Law_code 0 a1 a2 a3 210 M = some (k, if k = 0 then fm_sJ M 210 0 (Int32.toInt64 v) else M) ∧ ∀ M1 : fm_M, M1.1 = M.1 → (∀ q, q < 210 → M1.2.1 q = M.2.1 q) → M1.2.2 = M.2.2 → ∃ b, f_Mo_code 174 a1 a2 a3 M1 = some (b, fm_sI M1 174 0 k) ∧ (k = 0 → b = v) := by
    obtain ⟨n, k, s, h, Ps, hx⟩ := hR
    obtain ⟨hn6, hn, hmn, -, -, -⟩ := hx.1
    by_cases hv : 0 ≤ a1.toInt ∧ a1.toInt < n
    · obtain ⟨m, -, rfl, hm⟩ := nI_get hv.1
      have hm6 : m < 6 := by omega
      obtain ⟨l, r, wl, l24, r2, wl28, -, ⟨w1, w2, w3, w4, w5, w6⟩, -, -, -⟩ := hx.2.2.2.1 m (by omega)
      by_cases hw : 0 ≤ a3.toInt ∧ a3.toInt < 5
      · have c1 : ¬ a3 < 0 := fun h9 => by have := lt0.mp h9; omega
        have c2 : a3 ≤ 4 := (nle (k := 4) (by decide)).mpr (by omega)
        by_cases hw2 : 2 ≤ a3.toInt
        · have c3 : 2 ≤ a3 := (len (k := 2) (by decide)).mpr hw2
          by_cases hi : 0 ≤ a2.toInt ∧ a2.toInt < r
          · obtain ⟨i, -, rfl, hii⟩ := nI_get hi.1
            obtain ⟨b1, b2, b3⟩ := w6 i (by omega)
            have hC0 : ∃ v, f_Code_part (31 + 15 * m) (nI i) a3 M = some (v, M) ∧ ∀ M1 : fm_M, M1.1 = M.1 → ai 189 ((((6 * nI m) + (3 * nI i)) + a3) - 2) (fm_sI M1 174 0 0) = some v := by
              have hix : ∀ w : Nat, 2 ≤ w → w < 5 → a3 = nI w → ((((6 : Int32) * nI m) + (3 * nI i)) + a3) - 2 = nI (6 * m + 3 * i + (w - 2)) := by
                intro w hw1 hw3 hw4
                rw [hw4, show (6 : Int32) * nI m = nI (6 * m) from nI_mul 6 m, show (3 : Int32) * nI i = nI (3 * i) from nI_mul 3 i, nI_add, nI_add, show nI (6 * m + 3 * i + w) - 2 = nI (6 * m + 3 * i + w - 2) from nI_sub (b := 2) (by omega)]
                congr 1
                omega
              obtain ⟨w, -, hw4, hw5⟩ := nI_get hw.1
              obtain ⟨cc, g0, g1, g2, g3, g4, a0, a1', a2', a3', a4', hq⟩ := cd_w m hm6
              have hp : f_Code_part (31 + 15 * m) (nI i) a3 M = if a3 = 2 then some (M.1 (31 + 15 * m + 1) i, M) else if a3 = 3 then some (M.1 (31 + 15 * m + 2) i, M) else some (M.1 (31 + 15 * m + 3) i, M) := by
                unfold f_Code_part
                rw [if_pos c3, ck_e cc, ob_e, e_chr1 (cd_w m hm6) w3 (by omega) hi, bd_e, if_neg (by decide), g2, ob_e, ai_n a2' (by omega) (by decide), ob_e, g3, ob_e, ai_n a3' (by omega) (by decide), ob_e, g4, ob_e, ai_n a4' (by omega) (by decide), ob_e]
              rw [hp]
              have hw6 : w = 2 ∨ w = 3 ∨ w = 4 := by omega
              rcases hw6 with h9 | h9 | h9
              · subst h9
                refine ⟨_, by rw [if_pos (show a3 = 2 from hw4)], fun M1 h1 => ?_⟩
                rw [hix 2 (by omega) (by omega) hw4, ai_n an_189 (by omega) (by decide), sI_r, if_neg (by omega), h1, b1]
                rfl
              · subst h9
                refine ⟨_, by rw [if_neg (by rw [hw4]; decide), if_pos (show a3 = 3 from hw4)], fun M1 h1 => ?_⟩
                rw [hix 3 (by omega) (by omega) hw4, ai_n an_189 (by omega) (by decide), sI_r, if_neg (by omega), h1, b2]
              · subst h9
                refine ⟨_, by rw [if_neg (by rw [hw4]; decide), if_neg (by rw [hw4]; decide)], fun M1 h1 => ?_⟩
                rw [hix 4 (by omega) (by omega) hw4, ai_n an_189 (by omega) (by decide), sI_r, if_neg (by omega), h1, b3]
            obtain ⟨v, hp, hq⟩ := hC0
            refine ⟨0, v, ?_, fun M1 h1 _ _ => ⟨v, ?_, fun _ => rfl⟩⟩
            · unfold f_Law_code f_AP_code j_AP_code_71
              rw [ck_e cl_0, ob_e, ob_e, e_needM1 hn hn6 hv, xd_l, if_neg c1, if_pos c2, gr_0_2, ob_e, ar_m m hm6, ob_e, gr_m1 m hm6, ob_e, if_pos c3, ck_e (cd_w m hm6).1, ob_e, e_chr1 (cd_w m hm6) w3 (by omega) hi, bd_e, if_neg (by decide), ob_e, hp, bd_e, lt_l, out_w, ob_e, if_pos rfl]
            · have e9 : (fm_sI M1 174 0 0).1 174 9 = nI n := by rw [sI_r, if_neg (by decide), h1]; exact hmn
              have e184 : (fm_sI M1 174 0 0).1 184 m = nI r := by rw [sI_r, if_neg (by omega), h1]; exact w4
              unfold f_Mo_code j_Mo_code_51
              rw [pi_e cl_174, ob_e, gi_e cl_174, ob_e, e9, e_out1 (by omega) hv, bd_e, if_pos rfl, show (5 : Int32) = nI 5 from rfl, e_out1 (by decide) hw, bd_e, if_pos rfl, if_pos c3, gr_174_16, ob_e, ai_n an_184 hm6 (by decide), ob_e, e184, e_out1 (by omega) hi, bd_e, if_pos rfl, if_pos c3, gr_174_21, ob_e, hq M1 h1, ob_e]
          · refine ⟨2, 0, ?_, fun M1 h1 _ _ => ⟨0, ?_, fun h9 => absurd h9 (by decide)⟩⟩
            · unfold f_Law_code f_AP_code j_AP_code_61
              rw [ck_e cl_0, ob_e, ob_e, e_needM1 hn hn6 hv, xd_l, if_neg c1, if_pos c2, gr_0_2, ob_e, ar_m m hm6, ob_e, gr_m1 m hm6, ob_e, if_pos c3, ck_e (cd_w m hm6).1, ob_e, e_chr0 (cd_w m hm6) w3 (by omega) hi, bd_e, if_pos rfl, lt_r, if_neg (by decide), if_pos rfl, if_neg (by decide)]
            · have e9 : (fm_sI M1 174 0 0).1 174 9 = nI n := by rw [sI_r, if_neg (by decide), h1]; exact hmn
              have e184 : (fm_sI M1 174 0 0).1 184 m = nI r := by rw [sI_r, if_neg (by omega), h1]; exact w4
              unfold f_Mo_code j_Mo_code_51
              rw [pi_e cl_174, ob_e, gi_e cl_174, ob_e, e9, e_out1 (by omega) hv, bd_e, if_pos rfl, show (5 : Int32) = nI 5 from rfl, e_out1 (by decide) hw, bd_e, if_pos rfl, if_pos c3, gr_174_16, ob_e, ai_n an_184 hm6 (by decide), ob_e, e184, e_out0 (by omega) hi, bd_e, if_neg (by decide), ck_e cl_174, ob_e, e_mfail, bd_e, sI_same]
        · have c3 : ¬ 2 ≤ a3 := fun h9 => hw2 ((len (k := 2) (by decide)).mp h9)
          by_cases hi : 0 ≤ a2.toInt ∧ a2.toInt < wl
          · obtain ⟨i, -, rfl, hii⟩ := nI_get hi.1
            obtain ⟨b1, b2⟩ := w5 i (by omega)
            have hix : ((28 : Int32) * nI m) + nI i = nI (28 * m + i) := by rw [show (28 : Int32) * nI m = nI (28 * m) from nI_mul 28 m, nI_add]
            by_cases h0 : a3 = 0
            · refine ⟨0, M.1 (31 + 15 * m + 4) i, ?_, fun M1 h1 _ _ => ⟨M.1 (31 + 15 * m + 4) i, ?_, fun _ => rfl⟩⟩
              · unfold f_Law_code f_AP_code j_AP_code_71 f_Code_part
                rw [ck_e cl_0, ob_e, ob_e, e_needM1 hn hn6 hv, xd_l, if_neg c1, if_pos c2, gr_0_2, ob_e, ar_m m hm6, ob_e, gr_m1 m hm6, ob_e, if_neg c3, ck_e (cd_w m hm6).1, ob_e, e_chas1 (cd_w m hm6) w1 (by omega) hi, bd_e, if_neg (by decide), ob_e, if_neg c3, if_pos h0, ob_e, e_op1 (cd_w m hm6) w1 (by decide) wl28 (by omega), bd_e, bd_e, lt_l, out_w, ob_e, if_pos rfl]
              · have e9 : (fm_sI M1 174 0 0).1 174 9 = nI n := by rw [sI_r, if_neg (by decide), h1]; exact hmn
                have e186 : (fm_sI M1 174 0 0).1 186 m = nI wl := by rw [sI_r, if_neg (by omega), h1]; exact w2
                unfold f_Mo_code j_Mo_code_51
                rw [pi_e cl_174, ob_e, gi_e cl_174, ob_e, e9, e_out1 (by omega) hv, bd_e, if_pos rfl, show (5 : Int32) = nI 5 from rfl, e_out1 (by decide) hw, bd_e, if_pos rfl, if_neg c3, gr_174_18, ob_e, ai_n an_186 hm6 (by decide), ob_e, e186, e_out1 (by omega) hi, bd_e, if_pos rfl, if_neg c3, if_pos h0, gr_174_19, ob_e, hix, ai_n an_187 (by omega) (by decide), ob_e, sI_r, if_neg (by omega), h1, b1]
            · refine ⟨0, M.1 (31 + 15 * m + 5) i, ?_, fun M1 h1 _ _ => ⟨M.1 (31 + 15 * m + 5) i, ?_, fun _ => rfl⟩⟩
              · unfold f_Law_code f_AP_code j_AP_code_71 f_Code_part
                rw [ck_e cl_0, ob_e, ob_e, e_needM1 hn hn6 hv, xd_l, if_neg c1, if_pos c2, gr_0_2, ob_e, ar_m m hm6, ob_e, gr_m1 m hm6, ob_e, if_neg c3, ck_e (cd_w m hm6).1, ob_e, e_chas1 (cd_w m hm6) w1 (by omega) hi, bd_e, if_neg (by decide), ob_e, if_neg c3, if_neg h0, ob_e, e_ar1 (cd_w m hm6) w1 (by decide) wl28 (by omega), bd_e, bd_e, lt_l, out_w, ob_e, if_pos rfl]
              · have e9 : (fm_sI M1 174 0 0).1 174 9 = nI n := by rw [sI_r, if_neg (by decide), h1]; exact hmn
                have e186 : (fm_sI M1 174 0 0).1 186 m = nI wl := by rw [sI_r, if_neg (by omega), h1]; exact w2
                unfold f_Mo_code j_Mo_code_51
                rw [pi_e cl_174, ob_e, gi_e cl_174, ob_e, e9, e_out1 (by omega) hv, bd_e, if_pos rfl, show (5 : Int32) = nI 5 from rfl, e_out1 (by decide) hw, bd_e, if_pos rfl, if_neg c3, gr_174_18, ob_e, ai_n an_186 hm6 (by decide), ob_e, e186, e_out1 (by omega) hi, bd_e, if_pos rfl, if_neg c3, if_neg h0, gr_174_20, ob_e, hix, ai_n an_188 (by omega) (by decide), ob_e, sI_r, if_neg (by omega), h1, b2]
          · refine ⟨2, 0, ?_, fun M1 h1 _ _ => ⟨0, ?_, fun h9 => absurd h9 (by decide)⟩⟩
            · unfold f_Law_code f_AP_code j_AP_code_61
              rw [ck_e cl_0, ob_e, ob_e, e_needM1 hn hn6 hv, xd_l, if_neg c1, if_pos c2, gr_0_2, ob_e, ar_m m hm6, ob_e, gr_m1 m hm6, ob_e, if_neg c3, ck_e (cd_w m hm6).1, ob_e, e_chas0 (cd_w m hm6) w1 (by omega) hi, bd_e, if_pos rfl, lt_r, if_neg (by decide), if_pos rfl, if_neg (by decide)]
            · have e9 : (fm_sI M1 174 0 0).1 174 9 = nI n := by rw [sI_r, if_neg (by decide), h1]; exact hmn
              have e186 : (fm_sI M1 174 0 0).1 186 m = nI wl := by rw [sI_r, if_neg (by omega), h1]; exact w2
              unfold f_Mo_code j_Mo_code_51
              rw [pi_e cl_174, ob_e, gi_e cl_174, ob_e, e9, e_out1 (by omega) hv, bd_e, if_pos rfl, show (5 : Int32) = nI 5 from rfl, e_out1 (by decide) hw, bd_e, if_pos rfl, if_neg c3, gr_174_18, ob_e, ai_n an_186 hm6 (by decide), ob_e, e186, e_out0 (by omega) hi, bd_e, if_neg (by decide), ck_e cl_174, ob_e, e_mfail, bd_e, sI_same]
      · refine ⟨1, 0, ?_, fun M1 h1 _ _ => ⟨0, ?_, fun h9 => absurd h9 (by decide)⟩⟩
        · unfold f_Law_code f_AP_code j_AP_code_14
          rw [ck_e cl_0, ob_e, ob_e, e_needM1 hn hn6 hv, xd_l]
          by_cases c1 : a3 < 0
          · rw [if_pos c1, lt_r, if_pos rfl, if_neg (by decide)]
          · rw [if_neg c1, if_neg (fun h9 => by
              have := (nle (k := 4) (by decide)).mp h9
              rw [lt0] at c1
              omega), lt_r, if_pos rfl, if_neg (by decide)]
        · have e9 : (fm_sI M1 174 0 0).1 174 9 = nI n := by rw [sI_r, if_neg (by decide), h1]; exact hmn
          unfold f_Mo_code j_Mo_code_24
          rw [pi_e cl_174, ob_e, gi_e cl_174, ob_e, e9, e_out1 (by omega) hv, bd_e, if_pos rfl, show (5 : Int32) = nI 5 from rfl, e_out0 (by decide) hw, bd_e, if_neg (by decide), ck_e cl_174, ob_e, e_mfail, bd_e, sI_same]
    · refine ⟨1, 0, ?_, fun M1 h1 _ _ => ⟨0, ?_, fun h9 => absurd h9 (by decide)⟩⟩
      · unfold f_Law_code f_AP_code
        rw [ck_e cl_0, ob_e, ob_e, e_needM0 hn hn6 hv, xd_r, lt_r, if_pos rfl, if_neg (by decide)]
      · have e9 : (fm_sI M1 174 0 0).1 174 9 = nI n := by rw [sI_r, if_neg (by decide), h1]; exact hmn
        unfold f_Mo_code j_Mo_code_24
        rw [pi_e cl_174, ob_e, gi_e cl_174, ob_e, e9, e_out0 (by omega) hv, bd_e, if_neg (by decide), ck_e cl_174, ob_e, e_mfail, bd_e, sI_same]
  obtain ⟨k, v, hC, hM⟩ := key
  exact ask_i (f := f_Law_code 0 a1 a2 a3 210) (g := f_Mo_code 174 a1 a2 a3) hR hC hM
