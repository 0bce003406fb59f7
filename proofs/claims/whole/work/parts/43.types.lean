/-! the start -/
theorem m0_A : RA 0 m0 m0 := ⟨by decide, by decide +kernel, by decide +kernel, by decide +kernel, by decide +kernel, by decide +kernel⟩
theorem m0_I : (∀ m, m < 6 → m0.1 (24 + 15 * m) 4 = 0) ∧ (∀ m, m < 6 → m0.1 180 m = 0) ∧ (∀ t, t < 3 → ∀ j, j < 78 → m0.1 (9 + t) j = 0) ∧ (∀ j, j < 78 → m0.1 17 j = 0) ∧ (∀ j, j < 78 → m0.1 203 j = 0) ∧ (∀ j, j < 16 → m0.1 22 j = 0) ∧ (∀ t, t < 3 → m0.1 (114 + 17 * t) 1 = nI t ∧ m0.1 (114 + 17 * t) 2 = 0 ∧ m0.1 (114 + 17 * t) 3 = 0 ∧ m0.1 (114 + 17 * t) 4 = 0 ∧ m0.1 192 t = 0 ∧ m0.1 193 t = 0 ∧ m0.1 194 t = 0) := by decide +kernel
theorem Rel_0 : Rel m0 m0 := by
  obtain ⟨h1, h2, h3, h4, h5, h6, h7⟩ := m0_I
  refine ⟨0, 0, 0, 0, fun _ _ _ => True, m0_A, ⟨by decide, by decide +kernel, by decide +kernel, fun j hj => absurd hj (Nat.not_lt_zero _)⟩, ⟨0, 0, by decide, by decide, ⟨by decide +kernel, by decide +kernel, by decide +kernel, by decide +kernel, fun i hi => absurd hi (Nat.not_lt_zero _), fun i hi => absurd hi (Nat.not_lt_zero _)⟩, fun i hi => absurd hi (Nat.not_lt_zero _)⟩, fun m hm => absurd hm (Nat.not_lt_zero _), fun m hm => ⟨by rw [h1 m hm, h2 m hm], Or.inl (h1 m hm)⟩, ⟨by decide, by decide +kernel, by decide +kernel, fun _ => rfl, ⟨fun t ht j hj => ⟨0, Nat.le_refl _, h3 t ht j hj, rfl⟩, fun t ht j hj => ⟨0, Nat.zero_le _, rfl, rfl⟩, fun k _ _ => rfl⟩, ⟨fun j hj => ⟨0, Nat.zero_le _, rfl, show (0 : Int64) + 0 + 0 - 0 = lN 0 by decide⟩, fun j hj => ⟨0, Nat.zero_le _, h4 j hj, h5 j hj⟩, fun j hj => ⟨rfl, pos_0⟩⟩, ⟨0, by decide, by decide +kernel, by decide +kernel, fun i hi => absurd hi (Nat.not_lt_zero _), fun i _ hi => h6 i hi⟩, fun hw => absurd hw (by decide +kernel)⟩, ⟨by decide, by decide +kernel, by decide +kernel, fun i hi => absurd hi (Nat.not_lt_zero _)⟩, ⟨⟨0, by decide, by decide +kernel, by decide +kernel⟩, 0, by decide, by decide +kernel, by decide +kernel⟩, fun t ht => ?_⟩
  obtain ⟨g1, g2, g3, g4, g5, g6, g7⟩ := h7 t ht
  exact ⟨g1, 0, by decide, g2, g5, fun _ => ⟨by rw [g3, g6], by rw [g4, g7], Or.inl g6⟩, fun h => absurd h (Nat.not_lt_zero _), fun f hf => absurd hf (Nat.not_lt_zero _)⟩
/-! small steps -/
theorem e_out {x : Int32} {n : Nat} {M : fm_M} (hn : n < 2147483648) : f_Mo_out x (nI n) M = some (if 0 ≤ x.toInt ∧ x.toInt < n then 0 else 1, M) := by
  unfold f_Mo_out j_Mo_out_9
  by_cases h1 : x < 0
  · rw [if_pos h1, if_neg (fun h => by have := lt0.mp h1; omega)]
  · rw [if_neg h1]
    have h1' : 0 ≤ x.toInt := by
      rw [lt0] at h1
      omega
    by_cases h2 : x < nI n
    · rw [if_pos h2, if_pos ⟨h1', (ltn hn).mp h2⟩]
    · rw [if_neg h2, if_neg (fun h => h2 ((ltn hn).mpr h.2))]
theorem e_has {x : Int32} {k : Nat} {M : fm_M} (hk : M.1 2 1 = nI k) (hn : k < 2147483648) : f_Types_has 2 x M = some (if 0 ≤ x.toInt ∧ x.toInt < k then 1 else 0, M) := by
  unfold f_Types_has
  by_cases h1 : x < 0
  · rw [if_pos h1, if_neg (fun h => by have := lt0.mp h1; omega)]
  · have h1' : 0 ≤ x.toInt := by
      rw [lt0] at h1
      omega
    rw [if_neg h1, gi_e cl_2, ob_e, hk]
    by_cases h2 : nI k ≤ x
    · have := (len hn).mp h2
      rw [if_pos h2, if_neg (fun h => by omega)]
    · rw [if_neg h2, if_pos ⟨h1', Int.not_le.mp (fun h => h2 ((len hn).mpr h))⟩]
theorem e_full {k : Nat} {M : fm_M} (hk : M.1 2 1 = nI k) (hn : k ≤ 6) : f_Types_isFull 2 M = some (if k < 6 then 0 else 1, M) := by
  unfold f_Types_isFull
  rw [gi_e cl_2, ob_e, hk]
  by_cases h : k < 6
  · rw [if_pos (show nI k < 6 from nI_lt (b := 6) h (by decide)), if_pos h]
  · rw [if_neg (show ¬ nI k < 6 from nI_nlt (a := k) (b := 6) (by omega) (by omega)), if_neg h]
theorem e_fc {x : Int32} {M : fm_M} : f_AP_isFieldCount x M = some (if 0 ≤ x.toInt ∧ x.toInt < 4 then 1 else 0, M) := by
  unfold f_AP_isFieldCount
  by_cases h1 : x < 0
  · rw [if_pos h1, if_neg (fun h => by have := lt0.mp h1; omega)]
  · have h1' : 0 ≤ x.toInt := by
      rw [lt0] at h1
      omega
    rw [if_neg h1]
    by_cases h2 : 3 < x
    · have := (nlt (k := 3) (by decide)).mp h2
      rw [if_pos h2, if_neg (fun h => by omega)]
    · rw [if_neg h2, if_pos ⟨h1', by
        have : ¬ (3 : Int) < x.toInt := fun h => h2 ((nlt (k := 3) (by decide)).mpr h)
        omega⟩]
theorem nm8 : ∀ v, v < 1000 → (((lN v + (8 : Int32).toInt64) - 1) &&& (-(8 : Int32)).toInt64).toInt32 = nI ((v + 7) / 8 * 8) := by decide +kernel
theorem nm4 : ∀ v, v < 1000 → (((lN v + (4 : Int32).toInt64) - 1) &&& (-(4 : Int32)).toInt64).toInt32 = nI ((v + 3) / 4 * 4) := by decide +kernel
theorem nm2 : ∀ v, v < 1000 → (((lN v + (2 : Int32).toInt64) - 1) &&& (-(2 : Int32)).toInt64).toInt32 = nI ((v + 1) / 2 * 2) := by decide +kernel
theorem nm1 : ∀ v, v < 1000 → (((lN v + (1 : Int32).toInt64) - 1) &&& (-(1 : Int32)).toInt64).toInt32 = nI v := by decide +kernel
theorem e_eb {v c : Nat} {w : Int32} {g : Nat} {M : fm_M} (hv : v < 1000) (hc : c < 4) (hw : (((lN v + w.toInt64) - 1) &&& (-w).toInt64).toInt32 = nI g) {wn : Nat} (hwn : w = nI wn) : f_Types_endBehind (nI v) (nI c) w M = some (nI (if c = 0 then v else g + c * wn), M) := by
  unfold f_Types_endBehind
  by_cases h : c = 0
  · subst h
    rw [if_pos nI_0, if_pos rfl]
  · rw [if_neg (nI_ne0 (by omega) (by omega)), if_neg h]
    unfold f_AP_nextMultiple
    rw [bd_e, nI_l (by omega), hw, hwn, nI_mul, nI_add]
theorem ut8 : ∀ v, v < 1000 → (if (nI v - nI v / 8 * 8) = 0 then nI v else (nI v + 8) - (nI v - nI v / 8 * 8)) = nI ((v + 7) / 8 * 8) := by decide +kernel
theorem ut4 : ∀ v, v < 1000 → (if (nI v - nI v / 4 * 4) = 0 then nI v else (nI v + 4) - (nI v - nI v / 4 * 4)) = nI ((v + 3) / 4 * 4) := by decide +kernel
theorem ut2 : ∀ v, v < 1000 → (if (nI v - nI v / 2 * 2) = 0 then nI v else (nI v + 2) - (nI v - nI v / 2 * 2)) = nI ((v + 1) / 2 * 2) := by decide +kernel
theorem e_up {v : Nat} {w : Int32} {g : Nat} {M : fm_M} (hw0 : ¬ w = 0) (h : (if (nI v - nI v / w * w) = 0 then nI v else (nI v + w) - (nI v - nI v / w * w)) = nI g) : f_Mo_upTo (nI v) w M = some (nI g, M) := by
  unfold f_Mo_upTo
  rw [if_neg hw0, ← h]
  split <;> rfl
/-- the last check of a call that answers an int -/
theorem tail_i {k b : Int32} {M : fm_M} (h1 : M.1 174 0 = k) (h2 : k = 0 → M.2.1 210 0 = b.toInt64) : ((ck 174 10).bind fun _ => bd (f_Mo_thrown 174 M) fun x111 M109 => if x111 = k then if k = 0 then (aj 210 0 M109).bind fun x114 => if (lg_cmp x114 b.toInt64) = 0 then some M109 else none else some M109 else none) = some M := by
  rw [ck_e cl_174, ob_e]
  unfold f_Mo_thrown
  rw [gi_e cl_174, ob_e, bd_e, if_pos h1]
  by_cases hk : k = 0
  · rw [if_pos hk, show (0 : Int32) = nI 0 from rfl, aj_n an_210 (by decide) (by decide), ob_e, h2 hk]
    have : lg_cmp b.toInt64 b.toInt64 = 0 := by simp [lg_cmp]
    rw [this]
    rfl
  · rw [if_neg hk]
theorem out_w {v : Int64} {M : fm_M} : sj 210 0 v M = some (fm_sJ M 210 0 v) := sj_n (k := 0) an_210 (by decide) (by decide)
/-! size -/
theorem e_mfail {x : Int32} {M : fm_M} : f_Mo_fail 174 x M = some (0, fm_sI M 174 0 x) := by
  unfold f_Mo_fail
  rw [pi_e cl_174, ob_e]
theorem e_sizeOf {j k v : Nat} {M : fm_M} (hk : M.1 2 1 = nI k) (hk6 : k ≤ 6) (hj : j < k) (hv : M.1 3 j = nI v) (hv5 : v < 1000) : f_Types_sizeOf 2 (nI j) M = some (nI ((v + 7) / 8 * 8), M) := by
  have hj' : 0 ≤ (nI j).toInt ∧ (nI j).toInt < k := by rw [nt (by omega)]; omega
  unfold f_Types_sizeOf f_AP_nextMultiple
  rw [ck_e cl_2, ob_e, e_has hk (by omega), bd_e, if_pos hj', if_neg (by decide), gr_2_0, ob_e, ai_n an_3 (by omega) (by decide), ob_e, bd_e, hv, nI_l (by omega), nm8 v hv5]
theorem p_size (a : Int32) {M : fm_M} (hR : Rel M M) : ∃ M', l_case1 a M = some M' ∧ Rel M' M' := by
  obtain ⟨n, k, s, h, Ps, hx⟩ := hR
  obtain ⟨hk6, hk, hmk, hj⟩ := hx.2.1
  have hk' : k < 2147483648 := by omega
  by_cases hv : 0 ≤ a.toInt ∧ a.toInt < k
  · obtain ⟨j, -, rfl, hjj⟩ := nI_get hv.1
    obtain ⟨v, hv1, hv2, hv3, hv4⟩ := hj j (by omega)
    have hj6 : j < 6 := by omega
    have hv5 : v < 1000 := by omega
    have hC : f_Law_size 0 (nI j) 210 M = some (0, fm_sJ M 210 0 (nI ((v + 7) / 8 * 8)).toInt64) := by
      simp [f_Law_size, f_AP_size, ck_e cl_0, gr_0_1, ck_e cl_2, e_has hk hk', bd_e, hv, e_sizeOf hk hk6 (show j < k by omega) hv2 hv5, lt_l, out_w]
    have hM : ∀ M1 : fm_M, M1.1 174 1 = nI k → M1.1 176 j = nI ((v + 7) / 8 * 8) → f_Mo_size 174 (nI j) M1 = some (nI ((v + 7) / 8 * 8), fm_sI M1 174 0 0) := by
      intro M1 h1 h2
      simp [f_Mo_size, pi_e cl_174, gi_e cl_174, sI_r, h1, e_out hk', bd_e, hv, gr_174_3, ai_n an_176 hj6, h2]
    refine ⟨fm_sI (fm_sJ M 210 0 (nI ((v + 7) / 8 * 8)).toInt64) 174 0 0, ?_, n, k, s, h, Ps, ?_⟩
    · unfold l_case1
      rw [hC, bd_e, ck_e cl_174, ob_e, hM _ (by exact hmk) (by exact hv4), bd_e]
      exact tail_i rfl (fun _ => rfl)
    · exact Rx_c hx (eqC_tr (eqC_J (by decide)) (eqC_I (by decide))) (eqM_tr (eqM_J (Or.inr (by decide))) (eqM_t _ _))
  · have hC : f_Law_size 0 a 210 M = some (1, M) := by
      simp [f_Law_size, f_AP_size, ck_e cl_0, gr_0_1, ck_e cl_2, e_has hk hk', bd_e, hv, lt_r]
    have hM : f_Mo_size 174 a M = some (0, fm_sI (fm_sI M 174 0 0) 174 0 1) := by
      simp [f_Mo_size, pi_e cl_174, gi_e cl_174, sI_r, hmk, e_out hk', bd_e, hv, ck_e cl_174, e_mfail]
    refine ⟨fm_sI (fm_sI M 174 0 0) 174 0 1, ?_, n, k, s, h, Ps, ?_⟩
    · unfold l_case1
      rw [hC, bd_e, ck_e cl_174, ob_e, hM, bd_e]
      exact tail_i rfl (fun h => absurd h (by decide))
    · exact Rx_c hx (eqC_tr (eqC_I (by decide)) (eqC_I (by decide))) (eqM_tr (eqM_t _ _) (eqM_t _ _))
theorem p_fault {M : fm_M} (hR : Rel M M) : ∃ M', l_case5 M = some M' ∧ Rel M' M' := by
  obtain ⟨n, k, s, h, Ps, hx⟩ := hR
  refine ⟨fm_sI M 174 0 0, ?_, n, k, s, h, Ps, Rx_c hx (eqC_I (by decide)) (eqM_t _ _)⟩
  simp [l_case5, f_AP_fault, f_Mo_fault, ck_e cl_0, gi_e cl_0, bd_e, ck_e cl_174, pi_e cl_174, gi_e cl_174, sI_r, hx.1.2.2.2.1]
/-! type -/
theorem e_add19 {k v c2 c3 c4 c5 : Nat} {M : fm_M} (hk : M.1 2 1 = nI k) (hk6 : k < 6) (hv : v < 600) (h2 : c2 < 4) (h3 : c3 < 4) (h4 : c4 < 4) (h5 : c5 < 4) : ∃ v', v' ≤ v + 60 ∧ j_Types_add_19 2 (nI c2) (nI c3) (nI c4) (nI c5) (nI v) M = some (nI k, fm_sI (fm_sI M 3 k (nI v')) 2 1 (nI (k + 1))) ∧
    ∀ M1 : fm_M, M1.1 174 1 = nI k → ∃ M2, j_Mo_type_112 174 (nI c2) (nI c3) (nI c4) (nI c5) (nI v) M1 = some (nI k, M2) ∧ M2 = fm_sI (fm_sI (fm_sI M1 175 k (nI v')) 176 k (nI ((v' + 7) / 8 * 8))) 174 1 (nI (k + 1)) := by
  generalize g2 : (if c2 = 0 then v else (v + 7) / 8 * 8 + c2 * 8) = v2
  generalize g3 : (if c3 = 0 then v2 else (v2 + 3) / 4 * 4 + c3 * 4) = v3
  generalize g4 : (if c4 = 0 then v3 else (v3 + 1) / 2 * 2 + c4 * 2) = v4
  generalize g5 : (if c5 = 0 then v4 else v4 + c5 * 1) = v5
  have b2 : v2 ≤ v + 31 := by rw [← g2]; split <;> omega
  have b3 : v3 ≤ v2 + 15 := by rw [← g3]; split <;> omega
  have b4 : v4 ≤ v3 + 7 := by rw [← g4]; split <;> omega
  have b5 : v5 = v4 + c5 := by rw [← g5]; split <;> omega
  refine ⟨v5, by omega, ?_, fun M1 hM1 => ⟨_, ?_, rfl⟩⟩
  · unfold j_Types_add_19 j_Types_add_88
    rw [e_eb (by omega) h2 (nm8 v (by omega)) (wn := 8) rfl, bd_e, g2, e_eb (by omega) h3 (nm4 v2 (by omega)) (wn := 4) rfl, bd_e, g3, e_eb (by omega) h4 (nm2 v3 (by omega)) (wn := 2) rfl, bd_e, g4, e_eb (by omega) h5 (nm1 v4 (by omega)) (wn := 1) rfl, bd_e, g5, ck_e cl_2, ob_e, e_full hk (by omega), bd_e, if_pos hk6, if_pos rfl, gr_2_0, ob_e, gi_e cl_2, ob_e, hk, si_n an_3 (by omega) (by decide), ob_e, gi_e cl_2, ob_e, show (fm_sI M 3 k (nI v5)).1 2 1 = nI k from hk, nI_1, pi_e cl_2, ob_e, gi_e cl_2, ob_e]
    show some (nI (k + 1) - 1, _) = _
    rw [nI_pred]
  · have t2 : j_Mo_type_112 174 (nI c2) (nI c3) (nI c4) (nI c5) (nI v) M1 = j_Mo_type_135 174 (nI c3) (nI c4) (nI c5) (nI v2) M1 := by
      unfold j_Mo_type_112
      by_cases h : c2 = 0
      · subst h
        rw [if_pos (show nI 0 ≤ 0 by decide), ← g2, if_pos rfl]
      · rw [if_neg (nI_nle (by omega) (by omega)), e_up (by decide) (ut8 v (by omega)), bd_e, show (8 : Int32) * nI c2 = nI (8 * c2) from nI_mul 8 c2, nI_add, ← g2, if_neg h, Nat.mul_comm 8 c2]
    have t3 : j_Mo_type_135 174 (nI c3) (nI c4) (nI c5) (nI v2) M1 = j_Mo_type_156 174 (nI c4) (nI c5) (nI v3) M1 := by
      unfold j_Mo_type_135
      by_cases h : c3 = 0
      · subst h
        rw [if_pos (show nI 0 ≤ 0 by decide), ← g3, if_pos rfl]
      · rw [if_neg (nI_nle (by omega) (by omega)), e_up (by decide) (ut4 v2 (by omega)), bd_e, show (4 : Int32) * nI c3 = nI (4 * c3) from nI_mul 4 c3, nI_add, ← g3, if_neg h, Nat.mul_comm 4 c3]
    have t4 : j_Mo_type_156 174 (nI c4) (nI c5) (nI v3) M1 = j_Mo_type_179 174 (nI c5) (nI v4) M1 := by
      unfold j_Mo_type_156
      by_cases h : c4 = 0
      · subst h
        rw [if_pos (show nI 0 ≤ 0 by decide), ← g4, if_pos rfl]
      · rw [if_neg (nI_nle (by omega) (by omega)), e_up (by decide) (ut2 v3 (by omega)), bd_e, show (2 : Int32) * nI c4 = nI (2 * c4) from nI_mul 2 c4, nI_add, ← g4, if_neg h, Nat.mul_comm 2 c4]
    rw [t2, t3, t4]
    unfold j_Mo_type_179
    rw [gr_174_2, ob_e, gi_e cl_174, ob_e, hM1, nI_add, ← b5, si_n an_175 (by omega) (by decide), ob_e, gr_174_3, ob_e, gi_e cl_174, ob_e, show (fm_sI M1 175 k (nI v5)).1 174 1 = nI k from hM1, e_up (by decide) (ut8 v5 (by omega)), bd_e, si_n an_176 (by omega) (by decide), ob_e, gi_e cl_174, ob_e, show (fm_sI (fm_sI M1 175 k (nI v5)) 176 k (nI ((v5 + 7) / 8 * 8))).1 174 1 = nI k from hM1, nI_1, pi_e cl_174, ob_e, gi_e cl_174, ob_e]
    show some (nI (k + 1) - 1, _) = _
    rw [nI_pred]
