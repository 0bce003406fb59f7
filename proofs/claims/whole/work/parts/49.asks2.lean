/-! state, result, object, entry -/
theorem e_needT1 {t : Nat} {M : fm_M} (h : t < 3) : f_AP_needThread (nI t) M = some (.inl (), M) := by
  unfold f_AP_needThread
  rw [if_neg (nI_pos (by omega)), if_pos (show nI t < 3 from nI_lt (b := 3) h (by decide))]
theorem e_needT0 {x : Int32} {M : fm_M} (h : ¬ (0 ≤ x.toInt ∧ x.toInt < 3)) : f_AP_needThread x M = some (.inr "java/lang/IllegalArgumentException", M) := by
  unfold f_AP_needThread j_AP_needThread_9
  by_cases h1 : x < 0
  · rw [if_pos h1]
  · rw [if_neg h1, if_neg (show ¬ x < 3 from fun h9 => h ⟨by rw [lt0] at h1; omega, (ltn (k := 3) (by decide)).mp h9⟩)]
theorem e_cond {t a : Nat} {M : fm_M} (ht : t < 3) (ha : M.1 (114 + 17 * t) 2 = nI a) (ha5 : a ≤ 5) : f_Strand_condition (114 + 17 * t) M = some (if a = 0 then M.1 (114 + 17 * t) 3 else 1, M) := by
  unfold f_Strand_condition f_Strand_isRunning
  rw [ck_e (cl_t t ht), ob_e, gi_e (cl_t t ht), ob_e, ha]
  by_cases h : a = 0
  · subst h
    rw [if_pos (show nI 0 ≤ 0 by decide), bd_e, if_pos rfl, gi_e (cl_t t ht), ob_e, if_pos rfl]
  · rw [if_neg (nI_nle (by omega) (by omega)), bd_e, if_neg (by decide), if_neg h]
theorem p_state (a1 : Int32) {M : fm_M} (hR : Rel M M) : ∃ M', l_case13 a1 M = some M' ∧ Rel M' M' := by
  have key : ∃ k v, f_Law_state 0 a1 210 M = some (k, if k = 0 then fm_sJ M 210 0 (Int32.toInt64 v) else M) ∧ ∀ M1 : fm_M, M1.1 = M.1 → (∀ q, q < 210 → M1.2.1 q = M.2.1 q) → M1.2.2 = M.2.2 → ∃ b, f_Mo_state 174 a1 M1 = some (b, fm_sI M1 174 0 k) ∧ (k = 0 → b = v) := by
    obtain ⟨n, k, s, h, Ps, hx⟩ := hR
    by_cases hv : 0 ≤ a1.toInt ∧ a1.toInt < 3
    · obtain ⟨t, -, rfl, ht⟩ := nI_get hv.1
      have ht3 : t < 3 := by omega
      obtain ⟨-, a, s1, s2, s3, s4, s5, -⟩ := hx.2.2.2.2.2.2.2.2 t ht3
      have hs : (if a = 0 then M.1 (114 + 17 * t) 3 else 1) = M.1 193 t := by
        by_cases h9 : a = 0
        · rw [if_pos h9]
          exact (s4 h9).1
        · rw [if_neg h9]
          exact (s5 (by omega)).1.symm
      refine ⟨0, M.1 193 t, ?_, fun M1 h1 _ _ => ⟨M.1 193 t, ?_, fun _ => rfl⟩⟩
      · unfold f_Law_state f_AP_state
        rw [ck_e cl_0, ob_e, e_needT1 ht3, xd_l, gr_0_0, ob_e, gr_1_4, ob_e, ar_t t ht3, ob_e, ck_e (cl_t t ht3), ob_e, e_cond ht3 s2 s1, hs, bd_e, lt_l, out_w, ob_e, if_pos rfl]
      · unfold f_Mo_state
        rw [pi_e cl_174, ob_e, show (3 : Int32) = nI 3 from rfl, e_out1 (by decide) hv, bd_e, if_pos rfl, gr_174_26, ob_e, ai_n an_193 ht3 (by decide), ob_e, sI_r, if_neg (by omega), h1]
    · refine ⟨1, 0, ?_, fun M1 h1 _ _ => ⟨0, ?_, fun h9 => absurd h9 (by decide)⟩⟩
      · unfold f_Law_state f_AP_state
        rw [ck_e cl_0, ob_e, e_needT0 hv, xd_r, lt_r, if_pos rfl, if_neg (by decide)]
      · unfold f_Mo_state
        rw [pi_e cl_174, ob_e, show (3 : Int32) = nI 3 from rfl, e_out0 (by decide) hv, bd_e, if_neg (by decide), ck_e cl_174, ob_e, e_mfail, bd_e, sI_same]
  obtain ⟨k, v, hC, hM⟩ := key
  exact ask_i (f := f_Law_state 0 a1 210) (g := f_Mo_state 174 a1) hR hC hM
theorem p_result (a1 : Int32) {M : fm_M} (hR : Rel M M) : ∃ M', l_case14 a1 M = some M' ∧ Rel M' M' := by
  have key : ∃ k v, f_Law_result 0 a1 210 M = some (k, if k = 0 then fm_sJ M 210 0 (Int32.toInt64 v) else M) ∧ ∀ M1 : fm_M, M1.1 = M.1 → (∀ q, q < 210 → M1.2.1 q = M.2.1 q) → M1.2.2 = M.2.2 → ∃ b, f_Mo_result 174 a1 M1 = some (b, fm_sI M1 174 0 k) ∧ (k = 0 → b = v) := by
    obtain ⟨n, k, s, h, Ps, hx⟩ := hR
    by_cases hv : 0 ≤ a1.toInt ∧ a1.toInt < 3
    · obtain ⟨t, -, rfl, ht⟩ := nI_get hv.1
      have ht3 : t < 3 := by omega
      obtain ⟨-, a, s1, s2, s3, s4, s5, -⟩ := hx.2.2.2.2.2.2.2.2 t ht3
      have hs : (if a = 0 then M.1 (114 + 17 * t) 3 else 1) = M.1 193 t := by
        by_cases h9 : a = 0
        · rw [if_pos h9]
          exact (s4 h9).1
        · rw [if_neg h9]
          exact (s5 (by omega)).1.symm
      by_cases h23 : M.1 193 t = 2 ∨ M.1 193 t = 3
      · have ha0 : a = 0 := by
          rcases Nat.eq_zero_or_pos a with h9 | h9
          · exact h9
          · have := (s5 h9).1
            rcases h23 with h8 | h8 <;> rw [h8] at this <;> exact absurd this (by decide)
        refine ⟨0, M.1 (114 + 17 * t) 4, ?_, fun M1 h1 _ _ => ⟨M.1 (114 + 17 * t) 4, ?_, fun _ => rfl⟩⟩
        · have hj : j_AP_result_37 0 (nI t) M = some (.inl (M.1 (114 + 17 * t) 4), M) := by
            unfold j_AP_result_37
            rw [gr_0_0, ob_e, gr_1_4, ob_e, ar_t t ht3, ob_e, gi_e (cl_t t ht3), ob_e]
          unfold f_Law_result f_AP_result
          rw [ck_e cl_0, ob_e, e_needT1 ht3, xd_l, gr_0_0, ob_e, gr_1_4, ob_e, ar_t t ht3, ob_e, ck_e (cl_t t ht3), ob_e, e_cond ht3 s2 s1, hs, bd_e, hj]
          rcases h23 with h8 | h8
          · rw [h8, if_pos rfl, lt_l, out_w, ob_e, if_pos rfl]
          · rw [h8, if_neg (by decide), if_pos rfl, lt_l, out_w, ob_e, if_pos rfl]
        · have e1 : (fm_sI M1 174 0 0).1 193 t = M.1 193 t := by rw [sI_r, if_neg (by omega), h1]
          have e2 : (fm_sI M1 174 0 0).1 194 t = M.1 194 t := by rw [sI_r, if_neg (by omega), h1]
          unfold f_Mo_result
          rw [pi_e cl_174, ob_e, show (3 : Int32) = nI 3 from rfl, e_out1 (by decide) hv, bd_e, if_pos rfl, gr_174_26, ob_e, ai_n an_193 ht3 (by decide), ob_e, e1, if_pos (by rcases h23 with h8 | h8 <;> rw [h8] <;> decide), gr_174_27, ob_e, ai_n an_194 ht3 (by decide), ob_e, e2, (s4 ha0).2.1]
      · have h2 : M.1 193 t = 0 ∨ M.1 193 t = 1 := by
          by_cases h9 : a = 0
          · rcases (s4 h9).2.2 with h8 | h8 | h8
            · exact Or.inl h8
            · exact absurd (Or.inl h8) h23
            · exact absurd (Or.inr h8) h23
          · exact Or.inr (s5 (by omega)).1
        refine ⟨2, 0, ?_, fun M1 h1 _ _ => ⟨0, ?_, fun h9 => absurd h9 (by decide)⟩⟩
        · unfold f_Law_result f_AP_result
          rw [ck_e cl_0, ob_e, e_needT1 ht3, xd_l, gr_0_0, ob_e, gr_1_4, ob_e, ar_t t ht3, ob_e, ck_e (cl_t t ht3), ob_e, e_cond ht3 s2 s1, hs, bd_e, if_neg (fun h9 => h23 (Or.inl h9)), if_neg (fun h9 => h23 (Or.inr h9)), lt_r, if_neg (by decide), if_pos rfl, if_neg (by decide)]
        · have e1 : (fm_sI M1 174 0 0).1 193 t = M.1 193 t := by rw [sI_r, if_neg (by omega), h1]
          unfold f_Mo_result
          rw [pi_e cl_174, ob_e, show (3 : Int32) = nI 3 from rfl, e_out1 (by decide) hv, bd_e, if_pos rfl, gr_174_26, ob_e, ai_n an_193 ht3 (by decide), ob_e, e1, if_neg (by rcases h2 with h8 | h8 <;> rw [h8] <;> decide), ck_e cl_174, ob_e, e_mfail, bd_e, sI_same]
    · refine ⟨1, 0, ?_, fun M1 h1 _ _ => ⟨0, ?_, fun h9 => absurd h9 (by decide)⟩⟩
      · unfold f_Law_result f_AP_result
        rw [ck_e cl_0, ob_e, e_needT0 hv, xd_r, lt_r, if_pos rfl, if_neg (by decide)]
      · unfold f_Mo_result
        rw [pi_e cl_174, ob_e, show (3 : Int32) = nI 3 from rfl, e_out0 (by decide) hv, bd_e, if_neg (by decide), ck_e cl_174, ob_e, e_mfail, bd_e, sI_same]
  obtain ⟨k, v, hC, hM⟩ := key
  exact ask_i (f := f_Law_result 0 a1 210) (g := f_Mo_result 174 a1) hR hC hM
theorem p_object (a1 : Int32) {M : fm_M} (hR : Rel M M) : ∃ M', l_case15 a1 M = some M' ∧ Rel M' M' := by
  have key : ∃ k v, f_Law_object 0 a1 210 M = some (k, if k = 0 then fm_sJ M 210 0 (Int32.toInt64 v) else M) ∧ ∀ M1 : fm_M, M1.1 = M.1 → (∀ q, q < 210 → M1.2.1 q = M.2.1 q) → M1.2.2 = M.2.2 → ∃ b, f_Mo_object 174 a1 M1 = some (b, fm_sI M1 174 0 k) ∧ (k = 0 → b = v) := by
    obtain ⟨n, k, s, h, Ps, hx⟩ := hR
    obtain ⟨h4, hc, hm, hs⟩ := hx.2.2.2.2.2.2.1
    have e35 : ∀ M1 : fm_M, M1.1 = M.1 → (fm_sI M1 174 0 0).1 174 35 = nI h := fun M1 h1 => by rw [sI_r, if_neg (by decide), h1]; exact hm
    by_cases h0 : a1 < 0
    · refine ⟨1, 0, ?_, fun M1 h1 _ _ => ⟨0, ?_, fun h9 => absurd h9 (by decide)⟩⟩
      · unfold f_Law_object f_AP_object j_AP_object_15
        rw [ck_e cl_0, ob_e, if_pos h0, lt_r, if_pos rfl, if_neg (by decide)]
      · unfold f_Mo_object j_Mo_object_17
        rw [pi_e cl_174, ob_e, if_pos h0, ck_e cl_174, ob_e, e_mfail, bd_e, sI_same]
    · obtain ⟨j, hjb, rfl, hj⟩ := nI_get (x := a1) (by rw [lt0] at h0; omega)
      by_cases hjh : j ≤ h
      · have c1 : nI j ≤ nI h := nI_le hjh (by omega)
        by_cases hj0 : j = 0
        · subst hj0
          refine ⟨0, nI h, ?_, fun M1 h1 _ _ => ⟨nI h, ?_, fun _ => rfl⟩⟩
          · unfold f_Law_object f_AP_object
            rw [ck_e cl_0, ob_e, if_neg h0, gr_0_3, ob_e, gi_e cl_5, ob_e, hc, if_pos c1, if_pos (show nI 0 = 0 from rfl), ob_e, gi_e cl_5, ob_e, hc, lt_l, out_w, ob_e, if_pos rfl]
          · unfold f_Mo_object
            rw [pi_e cl_174, ob_e, if_neg h0, gi_e cl_174, ob_e, e35 M1 h1, if_pos c1, if_pos (show nI 0 = 0 from rfl), ob_e]
        · have c2 : ¬ nI j = 0 := nI_ne0 (by omega) (by omega)
          obtain ⟨i, rfl⟩ : ∃ i, j = i + 1 := ⟨j - 1, by omega⟩
          refine ⟨0, M.1 6 i, ?_, fun M1 h1 _ _ => ⟨M.1 6 i, ?_, fun _ => rfl⟩⟩
          · have hz : f_Heap_sizeOf 5 (nI (i + 1)) M = some (M.1 6 i, M) := by
              unfold f_Heap_sizeOf
              rw [if_neg (show ¬ nI (i + 1) < 1 from nI_nlt (a := i + 1) (b := 1) (by omega) (by omega)), gi_e cl_5, ob_e, hc, if_neg (nI_nlt hjh (by omega)), gr_5_0, ob_e, nI_pred, ai_n an_6 (by omega) (by decide), ob_e]
            unfold f_Law_object f_AP_object
            rw [ck_e cl_0, ob_e, if_neg h0, gr_0_3, ob_e, gi_e cl_5, ob_e, hc, if_pos c1, if_neg c2, ob_e, ck_e cl_5, ob_e, hz, bd_e, lt_l, out_w, ob_e, if_pos rfl]
          · unfold f_Mo_object
            rw [pi_e cl_174, ob_e, if_neg h0, gi_e cl_174, ob_e, e35 M1 h1, if_pos c1, if_neg c2, gr_174_36, ob_e, ai_n an_200 (by omega) (by decide), ob_e, sI_r, if_neg (by omega), h1, hs i (by omega)]
      · have c1 : ¬ nI j ≤ nI h := fun h9 => hjh ((nI_leI (by omega) (by omega)).mp h9)
        refine ⟨1, 0, ?_, fun M1 h1 _ _ => ⟨0, ?_, fun h9 => absurd h9 (by decide)⟩⟩
        · unfold f_Law_object f_AP_object j_AP_object_15
          rw [ck_e cl_0, ob_e, if_neg h0, gr_0_3, ob_e, gi_e cl_5, ob_e, hc, if_neg c1, lt_r, if_pos rfl, if_neg (by decide)]
        · unfold f_Mo_object j_Mo_object_17
          rw [pi_e cl_174, ob_e, if_neg h0, gi_e cl_174, ob_e, e35 M1 h1, if_neg c1, ck_e cl_174, ob_e, e_mfail, bd_e, sI_same]
  obtain ⟨k, v, hC, hM⟩ := key
  exact ask_i (f := f_Law_object 0 a1 210) (g := f_Mo_object 174 a1) hR hC hM
theorem p_entry (a1 a2 : Int32) {M : fm_M} (hR : Rel M M) : ∃ M', l_case17 a1 a2 M = some M' ∧ Rel M' M' := by
  have key : ∃ k v, f_Law_entry 0 a1 a2 210 M = some (k, if k = 0 then fm_sJ M 210 0 (Int32.toInt64 v) else M) ∧ ∀ M1 : fm_M, M1.1 = M.1 → (∀ q, q < 210 → M1.2.1 q = M.2.1 q) → M1.2.2 = M.2.2 → ∃ b, f_Mo_entry 174 a1 a2 M1 = some (b, fm_sI M1 174 0 k) ∧ (k = 0 → b = v) := by
    obtain ⟨n, k, s, h, Ps, hx⟩ := hR
    obtain ⟨-, -, -, -, -, -, ⟨e, e16, ec, em, es, -⟩, -⟩ := hx.2.2.2.2.2.1
    have e44 : ∀ M1 : fm_M, M1.1 = M.1 → (fm_sI M1 174 0 0).1 174 44 = nI e := fun M1 h1 => by rw [sI_r, if_neg (by decide), h1]; exact em
    by_cases hw : 0 ≤ a2.toInt ∧ a2.toInt < 3
    · have c1 : ¬ a2 < 0 := fun h9 => by have := lt0.mp h9; omega
      have c2 : a2 ≤ 2 := (nle (k := 2) (by decide)).mpr (by omega)
      by_cases hi : 0 ≤ a1.toInt ∧ a1.toInt < e
      · obtain ⟨i, -, rfl, hii⟩ := nI_get hi.1
        obtain ⟨b1, b2, b3⟩ := es i (by omega)
        have c3 : ¬ nI i < 0 := nI_pos (by omega)
        have c4 : nI i < nI e := nI_lt (by omega) (by omega)
        have hz : ∃ v, f_AP_entry 0 (nI i) a2 M = some (.inl v, M) ∧ ∀ M1 : fm_M, M1.1 = M.1 → f_Mo_entry 174 (nI i) a2 M1 = some (v, fm_sI M1 174 0 0) := by
          by_cases h0 : a2 = 0
          · refine ⟨M.1 20 i, ?_, fun M1 h1 => ?_⟩
            · unfold f_AP_entry
              rw [if_neg c1, if_pos c2, if_neg c3, gr_0_4, ob_e, gi_e cl_7, ob_e, ec, if_pos c4, if_pos h0, ob_e, gr_7_6, ob_e, ai_n an_20 (by omega) (by decide), ob_e]
            · unfold f_Mo_entry
              rw [pi_e cl_174, ob_e, show (3 : Int32) = nI 3 from rfl, e_out1 (by decide) hw, bd_e, if_pos rfl, gi_e cl_174, ob_e, e44 M1 h1, e_out1 (by omega) hi, bd_e, if_pos rfl, if_pos h0, gr_174_45, ob_e, ai_n an_207 (by omega) (by decide), ob_e, sI_r, if_neg (by omega), h1, b1]
          · by_cases h0' : a2 = 1
            · refine ⟨M.1 21 i, ?_, fun M1 h1 => ?_⟩
              · unfold f_AP_entry
                rw [if_neg c1, if_pos c2, if_neg c3, gr_0_4, ob_e, gi_e cl_7, ob_e, ec, if_pos c4, if_neg h0, if_pos h0', ob_e, gr_7_7, ob_e, ai_n an_21 (by omega) (by decide), ob_e]
              · unfold f_Mo_entry
                rw [pi_e cl_174, ob_e, show (3 : Int32) = nI 3 from rfl, e_out1 (by decide) hw, bd_e, if_pos rfl, gi_e cl_174, ob_e, e44 M1 h1, e_out1 (by omega) hi, bd_e, if_pos rfl, if_neg h0, if_pos h0', gr_174_46, ob_e, ai_n an_208 (by omega) (by decide), ob_e, sI_r, if_neg (by omega), h1, b2]
            · refine ⟨M.1 22 i, ?_, fun M1 h1 => ?_⟩
              · unfold f_AP_entry
                rw [if_neg c1, if_pos c2, if_neg c3, gr_0_4, ob_e, gi_e cl_7, ob_e, ec, if_pos c4, if_neg h0, if_neg h0', ob_e, gr_7_8, ob_e, ai_n an_22 (by omega) (by decide), ob_e]
              · unfold f_Mo_entry
                rw [pi_e cl_174, ob_e, show (3 : Int32) = nI 3 from rfl, e_out1 (by decide) hw, bd_e, if_pos rfl, gi_e cl_174, ob_e, e44 M1 h1, e_out1 (by omega) hi, bd_e, if_pos rfl, if_neg h0, if_neg h0', gr_174_47, ob_e, ai_n an_209 (by omega) (by decide), ob_e, sI_r, if_neg (by omega), h1, b3]
        obtain ⟨v, hz1, hz2⟩ := hz
        refine ⟨0, v, ?_, fun M1 h1 _ _ => ⟨v, hz2 M1 h1, fun _ => rfl⟩⟩
        unfold f_Law_entry
        rw [ck_e cl_0, ob_e, hz1, lt_l, out_w, ob_e, if_pos rfl]
      · refine ⟨2, 0, ?_, fun M1 h1 _ _ => ⟨0, ?_, fun h9 => absurd h9 (by decide)⟩⟩
        · unfold f_Law_entry f_AP_entry j_AP_entry_34
          rw [ck_e cl_0, ob_e, if_neg c1, if_pos c2]
          by_cases c3 : a1 < 0
          · rw [if_pos c3, lt_r, if_neg (by decide), if_pos rfl, if_neg (by decide)]
          · rw [if_neg c3, gr_0_4, ob_e, gi_e cl_7, ob_e, ec, if_neg (fun h9 => hi ⟨by rw [lt0] at c3; omega, (ltn (by omega)).mp h9⟩), lt_r, if_neg (by decide), if_pos rfl, if_neg (by decide)]
        · unfold f_Mo_entry
          rw [pi_e cl_174, ob_e, show (3 : Int32) = nI 3 from rfl, e_out1 (by decide) hw, bd_e, if_pos rfl, gi_e cl_174, ob_e, e44 M1 h1, e_out0 (by omega) hi, bd_e, if_neg (by decide), ck_e cl_174, ob_e, e_mfail, bd_e, sI_same]
    · refine ⟨1, 0, ?_, fun M1 h1 _ _ => ⟨0, ?_, fun h9 => absurd h9 (by decide)⟩⟩
      · unfold f_Law_entry f_AP_entry j_AP_entry_9
        rw [ck_e cl_0, ob_e]
        by_cases c1 : a2 < 0
        · rw [if_pos c1, lt_r, if_pos rfl, if_neg (by decide)]
        · rw [if_neg c1, if_neg (fun h9 => by
            have := (nle (k := 2) (by decide)).mp h9
            rw [lt0] at c1
            omega), lt_r, if_pos rfl, if_neg (by decide)]
      · unfold f_Mo_entry
        rw [pi_e cl_174, ob_e, show (3 : Int32) = nI 3 from rfl, e_out0 (by decide) hw, bd_e, if_neg (by decide), ck_e cl_174, ob_e, e_mfail, bd_e, sI_same]
  obtain ⟨k, v, hC, hM⟩ := key
  exact ask_i (f := f_Law_entry 0 a1 a2 210) (g := f_Mo_entry 174 a1 a2) hR hC hM
