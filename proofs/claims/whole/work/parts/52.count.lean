/-! count -/
theorem p_count (a1 a2 a3 : Int32) {M : fm_M} (hR : Rel M M) : ∃ M', l_case16 a1 a2 a3 M = some M' ∧ Rel M' M' := by
  have hm1 : (-1 : Int32).toInt = -1 := by decide
  have key : ∃ k v, f_Law_count 0 a1 a2 a3 210 M = some (k, if k = 0 then fm_sJ M 210 0 v else M) ∧ ∀ M1 : fm_M, pv M M1 → ∃ b, f_Mo_count 174 a1 a2 a3 M1 = some (b, fm_sI M1 174 0 k) ∧ (k = 0 → b = v) := by
    obtain ⟨n, k, s, h, Ps, hx⟩ := hR
    obtain ⟨hs2, hs, hm, -, he, ⟨-, h2, -⟩, -, -⟩ := hx.2.2.2.2.2.1
    have hh := hx.2.2.2.2.2.2.1.1
    have hcount : f_Law_count 0 a1 a2 a3 210 M = lt (f_AP_count 0 a1 a2 a3 M) (fun x104 M103 => (sj 210 0 x104 M103).bind fun M105 => some (0, M105)) (fun E9 M103 => if E9 = "java/lang/IllegalArgumentException" then some (1, M103) else if E9 = "java/util/NoSuchElementException" then some (2, M103) else none) := by
      unfold f_Law_count
      rw [ck_e cl_0, ob_e]
    by_cases hv : 0 ≤ a1.toInt ∧ a1.toInt < s
    · obtain ⟨j, -, rfl, hj⟩ := nI_get hv.1
      have hC1 : f_AP_count 0 (nI j) a2 a3 M = if a2 = -1 then j_AP_count_14 0 (nI j) a2 a3 M else xd (f_AP_needThread a2 M) fun _ M129 => j_AP_count_14 0 (nI j) a2 a3 M129 := by
        unfold f_AP_count
        rw [ck_e cl_0, ob_e, e_needS1 hs hs2 hv, xd_l]
      have e23 : ∀ M1 : fm_M, pv M M1 → (fm_sI M1 174 0 0).1 174 23 = nI s := fun M1 h1 => by rw [sI_r, if_neg (by decide), h1.1]; exact hm
      have hbad : ∀ M1 : fm_M, pv M M1 → ¬ (-1 ≤ a2.toInt ∧ a2.toInt < 3 ∧ 0 ≤ a3.toInt ∧ a3.toInt < 3) → f_Mo_count 174 (nI j) a2 a3 M1 = some ((0 : Int32).toInt64, fm_sI M1 174 0 1) := by
        intro M1 h1 hb
        have hj34 : j_Mo_count_34 174 (fm_sI M1 174 0 0) = some ((0 : Int32).toInt64, fm_sI M1 174 0 1) := by
          unfold j_Mo_count_34
          rw [ck_e cl_174, ob_e, e_mfail, bd_e, sI_same]
        unfold f_Mo_count
        rw [pi_e cl_174, ob_e, gi_e cl_174, ob_e, e23 M1 h1, e_out1 (by omega) hv, bd_e, if_pos rfl]
        by_cases g1 : a2 < -1
        · rw [if_pos g1, hj34]
        · rw [if_neg g1]
          by_cases g2 : 2 < a2
          · rw [if_pos g2, hj34]
          · rw [if_neg g2, show (3 : Int32) = nI 3 from rfl, e_out0 (by decide) (fun h9 => hb ⟨?_, ?_, h9.1, h9.2⟩), bd_e, if_neg (by decide), hj34]
            · rw [Int32.lt_iff_toInt_lt, hm1] at g1
              omega
            · have : ¬ (2 : Int) < a2.toInt := fun h9 => g2 ((nlt (k := 2) (by decide)).mpr h9)
              omega
      by_cases ht : -1 ≤ a2.toInt ∧ a2.toInt < 3
      · have hC2 : f_AP_count 0 (nI j) a2 a3 M = j_AP_count_14 0 (nI j) a2 a3 M := by
          rw [hC1]
          by_cases g : a2 = -1
          · rw [if_pos g]
          · rw [if_neg g]
            have g' : a2.toInt ≠ -1 := fun h9 => g (Int32.toInt_inj.mp (by rw [h9, hm1]))
            obtain ⟨t, -, rfl, g2⟩ := nI_get (x := a2) (by omega)
            rw [e_needT1 (by omega), xd_l]
        have g1 : ¬ a2 < -1 := by rw [Int32.lt_iff_toInt_lt, hm1]; omega
        have g2 : ¬ 2 < a2 := fun h9 => by have := (nlt (k := 2) (by decide)).mp h9; omega
        by_cases hw : 0 ≤ a3.toInt ∧ a3.toInt < 3
        · have c1 : ¬ a3 < 0 := fun h9 => by have := lt0.mp h9; omega
          have c2 : a3 ≤ 2 := (nle (k := 2) (by decide)).mpr (by omega)
          have hMs : ∀ M1 : fm_M, pv M M1 → f_Mo_count 174 (nI j) a2 a3 M1 = (if a3 = 2 then if 0 ≤ a2 then some ((0 : Int32).toInt64, fm_sI M1 174 0 2) else some ((M.1 203 j).toInt64, fm_sI M1 174 0 0) else if a3 = 0 then if 0 ≤ a2 then (aj 201 ((3 * nI j) + a2) (fm_sI M1 174 0 0)).bind fun x134 => some (x134, fm_sI M1 174 0 0) else some (M.2.1 201 (3 * j) + M.2.1 201 (3 * j + 1) + M.2.1 201 (3 * j + 2), fm_sI M1 174 0 0) else if 0 ≤ a2 then (aj 202 ((3 * nI j) + a2) (fm_sI M1 174 0 0)).bind fun x124 => some (x124, fm_sI M1 174 0 0) else some (M.2.1 202 (3 * j) + M.2.1 202 (3 * j + 1) + M.2.1 202 (3 * j + 2), fm_sI M1 174 0 0)) := by
            intro M1 h1
            have q201 : (fm_sI M1 174 0 0).2.1 201 = M.2.1 201 := h1.2.1 201 (by decide)
            have q202 : (fm_sI M1 174 0 0).2.1 202 = M.2.1 202 := h1.2.1 202 (by decide)
            have q203 : (fm_sI M1 174 0 0).1 203 j = M.1 203 j := by rw [sI_r, if_neg (by omega), h1.1]
            unfold f_Mo_count
            rw [pi_e cl_174, ob_e, gi_e cl_174, ob_e, e23 M1 h1, e_out1 (by omega) hv, bd_e, if_pos rfl, if_neg g1, if_neg g2, show (3 : Int32) = nI 3 from rfl, e_out1 (by decide) hw, bd_e, if_pos rfl, ck_e cl_174, ob_e, e_mfail, bd_e, sI_same, gr_174_39, ob_e, ai_n an_203 (by omega) (by decide), ob_e, q203, gr_174_37, ob_e, ob_e, e_moall an_201 (by omega), bd_e, q201, gr_174_38, ob_e, ob_e, e_moall an_202 (by omega), bd_e, q202]
          by_cases hw2 : a3 = 2
          · by_cases g : a2 = -1
            · obtain ⟨x, -, x1, x2⟩ := h2 j (by omega)
              refine ⟨0, (M.1 17 j).toInt64, ?_, fun M1 h1 => ⟨(M.1 203 j).toInt64, ?_, fun _ => by rw [x1, x2]⟩⟩
              · unfold j_AP_count_14 j_AP_count_53 at hC2
                rw [if_neg c1, if_pos c2, if_pos hw2, if_pos g, if_neg (by rw [hw2]; decide), if_neg (by rw [hw2]; decide), gr_0_4, ob_e, gr_7_3, ob_e, ai_n an_17 (by omega) (by decide), ob_e] at hC2
                rw [hcount, hC2, lt_l, out_w, ob_e, if_pos rfl]
              · rw [hMs M1 h1, if_pos hw2, if_neg (by rw [g]; decide)]
            · have g' : a2.toInt ≠ -1 := fun h9 => g (Int32.toInt_inj.mp (by rw [h9, hm1]))
              refine ⟨2, 0, ?_, fun M1 h1 => ⟨(0 : Int32).toInt64, ?_, fun h9 => absurd h9 (by decide)⟩⟩
              · unfold j_AP_count_14 at hC2
                rw [if_neg c1, if_pos c2, if_pos hw2, if_neg g] at hC2
                rw [hcount, hC2, lt_r, if_neg (by decide), if_pos rfl, if_neg (by decide)]
              · rw [hMs M1 h1, if_pos hw2, if_pos (show 0 ≤ a2 by rw [Int32.le_iff_toInt_le]; show (0 : Int) ≤ _; omega)]
          · have hC3 : f_AP_count 0 (nI j) a2 a3 M = j_AP_count_53 0 (nI j) a2 a3 M := by
              unfold j_AP_count_14 at hC2
              rw [if_neg c1, if_pos c2, if_neg hw2] at hC2
              exact hC2
            have hob : ∀ t, t < 3 → (M.1 (9 + t) j).toInt64 = M.2.1 201 (3 * j + t) := by
              intro t ht
              obtain ⟨o, o1, o2, o3⟩ := he.1 t ht j (by omega)
              rw [o2, o3, nI_l (by omega)]
            have hby : ∀ t, t < 3 → M.2.1 (13 + t) j = M.2.1 202 (3 * j + t) := by
              intro t ht
              obtain ⟨o, o1, o2, o3⟩ := he.2.1 t ht j (by omega)
              rw [o2, o3]
            by_cases hw0 : a3 = 0
            · unfold j_AP_count_53 at hC3
              rw [if_pos hw0, gr_0_4, ob_e, ck_e cl_7, ob_e, e_objectsOf (by omega), bd_e] at hC3
              by_cases g : a2 = -1
              · refine ⟨0, M.2.1 201 (3 * j) + M.2.1 201 (3 * j + 1) + M.2.1 201 (3 * j + 2), ?_, fun M1 h1 => ⟨_, ?_, fun _ => rfl⟩⟩
                · rw [if_pos (Or.inl g), if_pos (Or.inl g), if_pos (Or.inl g), Int64.zero_add, show (M.1 9 j).toInt64 = M.2.1 201 (3 * j) from hob 0 (by decide), show (M.1 10 j).toInt64 = M.2.1 201 (3 * j + 1) from hob 1 (by decide), show (M.1 11 j).toInt64 = M.2.1 201 (3 * j + 2) from hob 2 (by decide)] at hC3
                  rw [hcount, hC3, lt_l, out_w, ob_e, if_pos rfl]
                · rw [hMs M1 h1, if_neg hw2, if_pos hw0, if_neg (by rw [g]; decide)]
              · have g' : a2.toInt ≠ -1 := fun h9 => g (Int32.toInt_inj.mp (by rw [h9, hm1]))
                obtain ⟨t, -, rfl, g3⟩ := nI_get (x := a2) (by omega)
                have ht3 : t < 3 := by omega
                refine ⟨0, M.2.1 201 (3 * j + t), ?_, fun M1 h1 => ⟨_, ?_, fun _ => rfl⟩⟩
                · have hsum : (0 : Int64) + (if nI t = -1 ∨ nI t = nI 0 then (M.1 9 j).toInt64 else 0) + (if nI t = -1 ∨ nI t = nI 1 then (M.1 10 j).toInt64 else 0) + (if nI t = -1 ∨ nI t = nI 2 then (M.1 11 j).toInt64 else 0) = M.2.1 201 (3 * j + t) := by
                    rcases (show t = 0 ∨ t = 1 ∨ t = 2 by omega) with h9 | h9 | h9 <;> subst h9
                    · rw [if_pos (Or.inr rfl), if_neg (by decide), if_neg (by decide)]
                      simp only [Int64.add_zero, Int64.zero_add]
                      exact hob 0 (by decide)
                    · rw [if_neg (by decide), if_pos (Or.inr rfl), if_neg (by decide)]
                      simp only [Int64.add_zero, Int64.zero_add]
                      exact hob 1 (by decide)
                    · rw [if_neg (by decide), if_neg (by decide), if_pos (Or.inr rfl)]
                      simp only [Int64.add_zero, Int64.zero_add]
                      exact hob 2 (by decide)
                  rw [hsum] at hC3
                  rw [hcount, hC3, lt_l, out_w, ob_e, if_pos rfl]
                · rw [hMs M1 h1, if_neg hw2, if_pos hw0, if_pos (nI_pos' (by omega)), show (3 : Int32) * nI j = nI (3 * j) from nI_mul 3 j, nI_add, aj_n an_201 (by omega) (by decide), ob_e, show (fm_sI M1 174 0 0).2.1 201 = M.2.1 201 from h1.2.1 201 (by decide)]
            · have hw1 : a3 = 1 := by
                obtain ⟨w, -, w1, w2⟩ := nI_get hw.1
                have h9 : w = 0 ∨ w = 1 ∨ w = 2 := by omega
                rcases h9 with h9 | h9 | h9 <;> subst h9
                · exact absurd w1 hw0
                · exact w1
                · exact absurd w1 hw2
              unfold j_AP_count_53 at hC3
              rw [if_neg hw0, if_pos hw1, gr_0_4, ob_e, ck_e cl_7, ob_e, e_bytesOf (by omega), bd_e] at hC3
              by_cases g : a2 = -1
              · refine ⟨0, M.2.1 202 (3 * j) + M.2.1 202 (3 * j + 1) + M.2.1 202 (3 * j + 2), ?_, fun M1 h1 => ⟨_, ?_, fun _ => rfl⟩⟩
                · rw [if_pos (Or.inl g), if_pos (Or.inl g), if_pos (Or.inl g), Int64.zero_add, show M.2.1 13 j = M.2.1 202 (3 * j) from hby 0 (by decide), show M.2.1 14 j = M.2.1 202 (3 * j + 1) from hby 1 (by decide), show M.2.1 15 j = M.2.1 202 (3 * j + 2) from hby 2 (by decide)] at hC3
                  rw [hcount, hC3, lt_l, out_w, ob_e, if_pos rfl]
                · rw [hMs M1 h1, if_neg hw2, if_neg hw0, if_neg (by rw [g]; decide)]
              · have g' : a2.toInt ≠ -1 := fun h9 => g (Int32.toInt_inj.mp (by rw [h9, hm1]))
                obtain ⟨t, -, rfl, g3⟩ := nI_get (x := a2) (by omega)
                have ht3 : t < 3 := by omega
                refine ⟨0, M.2.1 202 (3 * j + t), ?_, fun M1 h1 => ⟨_, ?_, fun _ => rfl⟩⟩
                · have hsum : (0 : Int64) + (if nI t = -1 ∨ nI t = nI 0 then M.2.1 13 j else 0) + (if nI t = -1 ∨ nI t = nI 1 then M.2.1 14 j else 0) + (if nI t = -1 ∨ nI t = nI 2 then M.2.1 15 j else 0) = M.2.1 202 (3 * j + t) := by
                    rcases (show t = 0 ∨ t = 1 ∨ t = 2 by omega) with h9 | h9 | h9 <;> subst h9
                    · rw [if_pos (Or.inr rfl), if_neg (by decide), if_neg (by decide)]
                      simp only [Int64.add_zero, Int64.zero_add]
                      exact hby 0 (by decide)
                    · rw [if_neg (by decide), if_pos (Or.inr rfl), if_neg (by decide)]
                      simp only [Int64.add_zero, Int64.zero_add]
                      exact hby 1 (by decide)
                    · rw [if_neg (by decide), if_neg (by decide), if_pos (Or.inr rfl)]
                      simp only [Int64.add_zero, Int64.zero_add]
                      exact hby 2 (by decide)
                  rw [hsum] at hC3
                  rw [hcount, hC3, lt_l, out_w, ob_e, if_pos rfl]
                · rw [hMs M1 h1, if_neg hw2, if_neg hw0, if_pos (nI_pos' (by omega)), show (3 : Int32) * nI j = nI (3 * j) from nI_mul 3 j, nI_add, aj_n an_202 (by omega) (by decide), ob_e, show (fm_sI M1 174 0 0).2.1 202 = M.2.1 202 from h1.2.1 202 (by decide)]
        · refine ⟨1, 0, ?_, fun M1 h1 => ⟨_, hbad M1 h1 (fun h9 => hw h9.2.2), fun h9 => absurd h9 (by decide)⟩⟩
          have : j_AP_count_14 0 (nI j) a2 a3 M = some (.inr "java/lang/IllegalArgumentException", M) := by
            unfold j_AP_count_14 j_AP_count_23
            by_cases c1 : a3 < 0
            · rw [if_pos c1]
            · rw [if_neg c1, if_neg (fun h9 => by
                have := (nle (k := 2) (by decide)).mp h9
                rw [lt0] at c1
                omega)]
          rw [hcount, hC2, this, lt_r, if_pos rfl, if_neg (by decide)]
      · refine ⟨1, 0, ?_, fun M1 h1 => ⟨_, hbad M1 h1 (fun h9 => ht ⟨h9.1, h9.2.1⟩), fun h9 => absurd h9 (by decide)⟩⟩
        rw [hcount, hC1, if_neg (fun h9 => ht (by rw [h9, hm1]; omega)), e_needT0 (fun h9 => ht ⟨by omega, h9.2⟩), xd_r, lt_r, if_pos rfl, if_neg (by decide)]
    · refine ⟨1, 0, ?_, fun M1 h1 => ⟨(0 : Int32).toInt64, ?_, fun h9 => absurd h9 (by decide)⟩⟩
      · unfold f_AP_count at hcount
        rw [ck_e cl_0, ob_e, e_needS0 hs hs2 hv, xd_r, lt_r, if_pos rfl] at hcount
        rw [hcount, if_neg (by decide)]
      · have e23 : (fm_sI M1 174 0 0).1 174 23 = nI s := by rw [sI_r, if_neg (by decide), h1.1]; exact hm
        unfold f_Mo_count j_Mo_count_34
        rw [pi_e cl_174, ob_e, gi_e cl_174, ob_e, e23, e_out0 (by omega) hv, bd_e, if_neg (by decide), ck_e cl_174, ob_e, e_mfail, bd_e, sI_same]
  obtain ⟨k, v, hC, hM⟩ := key
  exact ask_j (f := f_Law_count 0 a1 a2 a3 210) (g := f_Mo_count 174 a1 a2 a3) hR hC hM
