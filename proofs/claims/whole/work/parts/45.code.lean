/-! a Code at cell q -/
section CODE
variable {q N l r : Nat} {M : fm_M}
theorem e_cclr (H : cdq q N) : f_Code_clear q M = some (fm_sI (fm_sI M q 5 0) q 6 0) := by
  unfold f_Code_clear
  rw [pi_e H.1, ob_e, pi_e H.1, ob_e]
theorem e_chas1 {x : Int32} (H : cdq q N) (hl : M.1 q 5 = nI l) (hn : l < 1000) (h : 0 ≤ x.toInt ∧ x.toInt < l) : f_Code_has q x M = some (1, M) := by
  unfold f_Code_has
  rw [if_neg (fun h9 => by have := lt0.mp h9; omega), gi_e H.1, ob_e, hl, if_neg (fun h9 => by have := (len (by omega)).mp h9; omega)]
theorem e_chas0 {x : Int32} (H : cdq q N) (hl : M.1 q 5 = nI l) (hn : l < 1000) (h : ¬ (0 ≤ x.toInt ∧ x.toInt < l)) : f_Code_has q x M = some (0, M) := by
  unfold f_Code_has
  by_cases h1 : x < 0
  · rw [if_pos h1]
  · rw [if_neg h1, gi_e H.1, ob_e, hl, if_pos ((len (by omega)).mpr (by rw [lt0] at h1; omega))]
theorem e_chr1 {x : Int32} (H : cdq q N) (hl : M.1 q 6 = nI r) (hn : r < 1000) (h : 0 ≤ x.toInt ∧ x.toInt < r) : f_Code_hasRange q x M = some (1, M) := by
  unfold f_Code_hasRange
  rw [if_neg (fun h9 => by have := lt0.mp h9; omega), gi_e H.1, ob_e, hl, if_neg (fun h9 => by have := (len (by omega)).mp h9; omega)]
theorem e_chr0 {x : Int32} (H : cdq q N) (hl : M.1 q 6 = nI r) (hn : r < 1000) (h : ¬ (0 ≤ x.toInt ∧ x.toInt < r)) : f_Code_hasRange q x M = some (0, M) := by
  unfold f_Code_hasRange
  by_cases h1 : x < 0
  · rw [if_pos h1]
  · rw [if_neg h1, gi_e H.1, ob_e, hl, if_pos ((len (by omega)).mpr (by rw [lt0] at h1; omega))]
theorem e_cfull0 (H : cdq q N) (hl : M.1 q 5 = nI l) (hN : N < 1000) (h : l < N) : f_Code_isFull q M = some (0, M) := by
  unfold f_Code_isFull
  rw [gi_e H.1, ob_e, H.2.1, ob_e, ln_e H.2.2.2.2.2.2.1 (by have := H.2.2.2.2.2.2.2.2.2.2.2; omega), ob_e, hl, if_pos (nI_lt h (by omega))]
theorem e_cfull1 (H : cdq q N) (hl : M.1 q 5 = nI l) (hN : l < 1000) (h : N ≤ l) : f_Code_isFull q M = some (1, M) := by
  unfold f_Code_isFull
  rw [gi_e H.1, ob_e, H.2.1, ob_e, ln_e H.2.2.2.2.2.2.1 (by have := H.2.2.2.2.2.2.2.2.2.2.2; omega), ob_e, hl, if_neg (nI_nlt h (by omega))]
theorem e_call0 (H : cdq q N) (hl : M.1 q 6 = nI r) (h : r < 2) : f_Code_hasAllRanges q M = some (0, M) := by
  unfold f_Code_hasAllRanges
  rw [gi_e H.1, ob_e, hl, if_pos (show nI r < 2 from nI_lt (b := 2) h (by decide))]
theorem e_call1 (H : cdq q N) (hl : M.1 q 6 = nI r) (h : 2 ≤ r) (hr : r < 1000) : f_Code_hasAllRanges q M = some (1, M) := by
  unfold f_Code_hasAllRanges
  rw [gi_e H.1, ob_e, hl, if_neg (show ¬ nI r < 2 from nI_nlt (a := r) (b := 2) h (by omega))]
def m_app (q l : Nat) (o a : Int32) (M : fm_M) : fm_M := fm_sI (fm_sI (fm_sI M (q + 4) l o) (q + 5) l a) q 5 (nI (l + 1))
theorem e_app {o a : Int32} (H : cdq q N) (hl : M.1 q 5 = nI l) (hN : N < 1000) (h : l < N) : f_Code_append q o a M = some (nI l, m_app q l o a M) := by
  obtain ⟨c, g0, g1, g2, g3, g4, a0, a1, a2, a3, a4, hq⟩ := id H
  have e1 : (fm_sI M (q + 4) l o).1 q 5 = nI l := by rw [sI_r, if_neg (by omega)]; exact hl
  have e2 : (fm_sI (fm_sI M (q + 4) l o) (q + 5) l a).1 q 5 = nI l := by rw [sI_r, if_neg (by omega)]; exact e1
  unfold f_Code_append j_Code_append_37 m_app
  rw [ck_e c, ob_e, e_cfull0 H hl hN h, bd_e, if_pos rfl, g0, ob_e, gi_e c, ob_e, hl, si_n a0 h (by omega), ob_e, g1, ob_e, gi_e c, ob_e, e1, si_n a1 h (by omega), ob_e, gi_e c, ob_e, e2, nI_1, pi_e c, ob_e, gi_e c, ob_e]
  have e3 : (fm_sI (fm_sI (fm_sI M (q + 4) l o) (q + 5) l a) q 5 (nI (l + 1))).1 q 5 = nI (l + 1) := by rw [sI_r, if_pos ⟨rfl, rfl⟩]
  rw [e3, nI_pred]
def m_appr (q r : Nat) (b e h : Int32) (M : fm_M) : fm_M := fm_sI (fm_sI (fm_sI (fm_sI M (q + 1) r b) (q + 2) r e) (q + 3) r h) q 6 (nI (r + 1))
theorem e_appr {b e h : Int32} (H : cdq q N) (hl : M.1 q 6 = nI r) (hr : r < 2) : f_Code_appendRange q b e h M = some (nI (r + 1), m_appr q r b e h M) := by
  obtain ⟨c, g0, g1, g2, g3, g4, a0, a1, a2, a3, a4, hq⟩ := id H
  have e1 : (fm_sI M (q + 1) r b).1 q 6 = nI r := by rw [sI_r, if_neg (by omega)]; exact hl
  have e2 : (fm_sI (fm_sI M (q + 1) r b) (q + 2) r e).1 q 6 = nI r := by rw [sI_r, if_neg (by omega)]; exact e1
  have e3 : (fm_sI (fm_sI (fm_sI M (q + 1) r b) (q + 2) r e) (q + 3) r h).1 q 6 = nI r := by rw [sI_r, if_neg (by omega)]; exact e2
  unfold f_Code_appendRange m_appr
  rw [ck_e c, ob_e, e_call0 H hl hr, bd_e, if_pos rfl, g2, ob_e, gi_e c, ob_e, hl, si_n a2 hr (by decide), ob_e, g3, ob_e, gi_e c, ob_e, e1, si_n a3 hr (by decide), ob_e, g4, ob_e, gi_e c, ob_e, e2, si_n a4 hr (by decide), ob_e, gi_e c, ob_e, e3, nI_1, pi_e c, ob_e, gi_e c, ob_e]
  have e4 : (fm_sI (fm_sI (fm_sI (fm_sI M (q + 1) r b) (q + 2) r e) (q + 3) r h) q 6 (nI (r + 1))).1 q 6 = nI (r + 1) := by rw [sI_r, if_pos ⟨rfl, rfl⟩]
  rw [e4]
theorem e_op1 {i : Nat} (H : cdq q N) (hl : M.1 q 5 = nI l) (hN : N < 1000) (h : l ≤ N) (hi : i < l) : f_Code_operationAt q (nI i) M = some (M.1 (q + 4) i, M) := by
  have hi' : 0 ≤ (nI i).toInt ∧ (nI i).toInt < l := by rw [nt (by omega)]; omega
  unfold f_Code_operationAt
  rw [ck_e H.1, ob_e, e_chas1 H hl (by omega) hi', bd_e, if_neg (by decide), H.2.1, ob_e, ai_n H.2.2.2.2.2.2.1 (by omega) (by omega), ob_e]
theorem e_op0 {x : Int32} (H : cdq q N) (hl : M.1 q 5 = nI l) (hn : l < 1000) (h : ¬ (0 ≤ x.toInt ∧ x.toInt < l)) : f_Code_operationAt q x M = some (14, M) := by
  unfold f_Code_operationAt
  rw [ck_e H.1, ob_e, e_chas0 H hl hn h, bd_e, if_pos rfl]
theorem e_ar1 {i : Nat} (H : cdq q N) (hl : M.1 q 5 = nI l) (hN : N < 1000) (h : l ≤ N) (hi : i < l) : f_Code_argumentAt q (nI i) M = some (M.1 (q + 5) i, M) := by
  have hi' : 0 ≤ (nI i).toInt ∧ (nI i).toInt < l := by rw [nt (by omega)]; omega
  unfold f_Code_argumentAt
  rw [ck_e H.1, ob_e, e_chas1 H hl (by omega) hi', bd_e, if_neg (by decide), H.2.2.1, ob_e, ai_n H.2.2.2.2.2.2.2.1 (by omega) (by omega), ob_e]
theorem e_cov {i : Nat} {x : Int32} (H : cdq q N) (hr : M.1 q 6 = nI r) (hr2 : r ≤ 2) (hi : i < r) : f_Code_covers q (nI i) x M = some (if M.1 (q + 1) i ≤ x ∧ x < M.1 (q + 2) i then 1 else 0, M) := by
  obtain ⟨c, g0, g1, g2, g3, g4, a0, a1, a2, a3, a4, hq⟩ := id H
  unfold f_Code_covers
  rw [if_neg (nI_pos (by omega)), gi_e c, ob_e, hr, if_neg (nI_ge hi (by omega)), g2, ob_e, ai_n a2 (by omega) (by decide), ob_e]
  by_cases h1 : x < M.1 (q + 1) i
  · rw [if_pos h1, if_neg (fun h9 => by
      have h2 := h9.1
      rw [Int32.le_iff_toInt_le] at h2
      rw [Int32.lt_iff_toInt_lt] at h1
      omega)]
  · have h1' : M.1 (q + 1) i ≤ x := by
      rw [Int32.le_iff_toInt_le]
      rw [Int32.lt_iff_toInt_lt] at h1
      omega
    rw [if_neg h1, g3, ob_e, ai_n a3 (by omega) (by decide), ob_e]
    by_cases h2 : M.1 (q + 2) i ≤ x
    · rw [if_pos h2, if_neg (fun h9 => by
        have h3 := h9.2
        rw [Int32.le_iff_toInt_le] at h2
        rw [Int32.lt_iff_toInt_lt] at h3
        omega)]
    · rw [if_neg h2, if_pos ⟨h1', by
        rw [Int32.le_iff_toInt_le] at h2
        rw [Int32.lt_iff_toInt_lt]
        omega⟩]
end CODE
/-! draft -/
theorem m_draft_thr {x1 x2 v : Int32} {M : fm_M} (hv : 0 < v) : j_Mo_draft_28 174 x1 x2 174 v M = some (0, fm_sI M 174 0 v) := by
  have h0 : ¬ v ≤ 0 := by
    rw [Int32.lt_iff_toInt_lt] at hv
    rw [Int32.le_iff_toInt_le]
    omega
  unfold j_Mo_draft_28
  rw [pi_e cl_174, ob_e, gi_e cl_174, ob_e]
  show (if v ≤ 0 then _ else _) = _
  rw [if_neg h0]
theorem p_draft (a1 a2 : Int32) {M : fm_M} (hR : Rel M M) : ∃ M', l_case2 a1 a2 M = some M' ∧ Rel M' M' := by
  obtain ⟨n, k, s, h, Ps, hx⟩ := hR
  obtain ⟨l, r, hl, hr, hcr, ho⟩ := hx.2.2.1
  obtain ⟨c1, c2, c3, c4, c5, c6⟩ := hcr
  by_cases hop : 0 ≤ a1.toInt ∧ a1.toInt < 16
  · have e1 : ¬ a1 < 0 := fun h9 => by have := lt0.mp h9; omega
    have e2 : a1 ≤ 15 := (nle (k := 15) (by decide)).mpr (by omega)
    by_cases hf : l < 24
    · have hC : f_Law_draft 0 a1 a2 210 M = some (0, fm_sJ (m_app 165 l a1 a2 M) 210 0 (nI l).toInt64) := by
        unfold f_Law_draft f_AP_draft
        rw [ck_e cl_0, ob_e, if_neg e1, if_pos e2, gr_0_5, ob_e, ck_e cl_165, ob_e, e_cfull0 cd_d c1 (by decide) hf, bd_e, if_pos rfl, ob_e, ck_e cl_165, ob_e, e_app cd_d c1 (by decide) hf, bd_e, lt_l, out_w, ob_e]
      generalize hM1 : fm_sJ (m_app 165 l a1 a2 M) 210 0 (nI l).toInt64 = M1 at hC
      have d1 : ∀ j, M1.1 174 j = M.1 174 j := by
        intro j
        rw [← hM1]
        simp [m_app, sJ_1, sI_r]
      have hD : f_Mo_draft 174 a1 a2 M1 = some (nI l, fm_sI (fm_sI (fm_sI (fm_sI M1 174 0 0) 177 l a1) 178 l a2) 174 4 (nI (l + 1))) := by
        unfold f_Mo_draft
        rw [show (16 : Int32) = nI 16 from rfl, e_out1 (by decide) (by exact hop), bd_e, if_pos rfl, gi_e cl_174, ob_e, d1 4, c2, if_neg (fun h9 => by have := (nI_eq (a := l) (b := 24) (by omega) (by omega)).mp h9; omega)]
        unfold j_Mo_draft_28
        rw [pi_e cl_174, ob_e, gi_e cl_174, ob_e, show (fm_sI M1 174 0 0).1 174 0 = 0 from rfl, if_pos (by decide), gr_174_5, ob_e, gi_e cl_174, ob_e, show (fm_sI M1 174 0 0).1 174 4 = nI l from (d1 4).trans c2, si_n an_177 hf (by decide), ob_e, gr_174_6, ob_e, gi_e cl_174, ob_e, show (fm_sI (fm_sI M1 174 0 0) 177 l a1).1 174 4 = nI l from (d1 4).trans c2, si_n an_178 hf (by decide), ob_e, gi_e cl_174, ob_e, show (fm_sI (fm_sI (fm_sI M1 174 0 0) 177 l a1) 178 l a2).1 174 4 = nI l from (d1 4).trans c2, nI_1, pi_e cl_174, ob_e, gi_e cl_174, ob_e]
        show some (nI (l + 1) - 1, _) = _
        rw [nI_pred]
      generalize hM2 : fm_sI (fm_sI (fm_sI (fm_sI M1 174 0 0) 177 l a1) 178 l a2) 174 4 (nI (l + 1)) = M2 at hD
      refine ⟨M2, ?_, n, k, s, h, Ps, ?_⟩
      · unfold l_case2
        rw [hC, bd_e, ck_e cl_174, ob_e, hD, bd_e]
        exact tail_i (by rw [← hM2]; rfl) (fun _ => by rw [← hM2, ← hM1]; rfl)
      · have f0 : ∀ q, ¬ (q = 165 ∨ q = 169 ∨ q = 170 ∨ q = 174 ∨ q = 177 ∨ q = 178) → M2.1 q = M.1 q := by
          intro q hq
          rw [← hM2, ← hM1]
          funext z
          simp only [m_app, sI_r, sJ_1]
          rw [if_neg (by omega), if_neg (by omega), if_neg (by omega), if_neg (by omega), if_neg (by omega), if_neg (by omega), if_neg (by omega)]
        have f1 : ∀ z, ¬ (z = 0 ∨ z = 4) → M2.1 174 z = M.1 174 z := by
          intro z hz
          rw [← hM2]
          simp only [sI_r]
          rw [if_neg (by omega), if_neg (by omega), if_neg (by omega), if_neg (by omega), d1]
        have f2 : ∀ q, ¬ (q = 210) → M2.2.1 q = M.2.1 q := by
          intro q hq
          rw [← hM2, ← hM1]
          funext z
          simp only [m_app, sI_2, sJ_r]
          rw [if_neg (by omega)]
        have f3 : ∀ q, ¬ (q = 1000) → M2.2.2.1 q = M.2.2.1 q := by
          intro q _
          rw [← hM2, ← hM1]
          rfl
        have g1 : M2.1 165 5 = nI (l + 1) := by rw [← hM2, ← hM1]; rfl
        have g2 : M2.1 174 4 = nI (l + 1) := by rw [← hM2]; rfl
        have g3 : M2.1 165 6 = M.1 165 6 := by rw [← hM2, ← hM1]; rfl
        have g4 : ∀ z, M2.1 169 z = if z = l then a1 else M.1 169 z := by intro z; rw [← hM2, ← hM1]; simp [m_app, sI_r, sJ_1]
        have g5 : ∀ z, M2.1 170 z = if z = l then a2 else M.1 170 z := by intro z; rw [← hM2, ← hM1]; simp [m_app, sI_r, sJ_1]
        have g6 : ∀ z, M2.1 177 z = if z = l then a1 else M.1 177 z := by intro z; rw [← hM2, ← hM1]; simp [m_app, sI_r, sJ_1]
        have g7 : ∀ z, M2.1 178 z = if z = l then a2 else M.1 178 z := by intro z; rw [← hM2, ← hM1]; simp [m_app, sI_r, sJ_1]
        obtain ⟨xa, xb, xc, xd, xe, xf, xg, xh, xi⟩ := hx
        refine ⟨(RA_c xa (f0 0 (by omega)) (fun j a b => f1 j (by omega))), (RB_c xb (f0 2 (by omega)) (f0 3 (by omega)) (f1 1 (by omega)) (f0 175 (by omega)) (f0 176 (by omega))), ⟨l + 1, r, by omega, hr, ⟨g1, g2, g3.trans c3, (f1 7 (by omega)).trans c4, fun i hi => ?_, fun i hi => ?_⟩, fun i hi => ?_⟩, (RD_c xd xa.1 (fun q a b => f0 q (by omega)) (fun q a b => f0 q (by omega))), (RX_c xe (fun m hm => by rw [f0 (24 + 15 * m) (by omega)]) (f0 180 (by omega))), (RE_c xf (by rw [f0 0 (by omega)]) (f0 7 (by omega)) (fun q a b => ⟨f0 q (by omega), f2 q (by omega), f3 q (by omega)⟩) (f1 23 (by omega)) (f1 42 (by omega)) (f1 44 (by omega)) (fun q a b => ⟨f0 q (by omega), f2 q (by omega), f3 q (by omega)⟩)), (RF_c xg (f0 5 (by omega)) (f0 6 (by omega)) (f1 35 (by omega)) (f0 200 (by omega))), (RG_c xh (f0 1 (by omega)) (f1 33 (by omega)) (f1 34 (by omega))), (RS_c xi xa.1 (by rw [f0 0 (by omega)]) (fun m hm => f0 _ (by omega)) (fun q a b => f0 q (by omega)) (fun q a b => f0 q (by omega)))⟩
        · show M2.1 169 i = M2.1 177 (0 + i) ∧ M2.1 170 i = M2.1 178 (0 + i)
          rw [Nat.zero_add, g4, g5, g6, g7]
          by_cases hz : i = l
          · rw [if_pos hz, if_pos hz, if_pos hz, if_pos hz]
            exact ⟨rfl, rfl⟩
          · rw [if_neg hz, if_neg hz, if_neg hz, if_neg hz]
            have := c5 i (by omega)
            rw [Nat.zero_add] at this
            exact this
        · show M2.1 166 i = M2.1 179 (0 + 3 * i) ∧ M2.1 167 i = M2.1 179 (0 + 3 * i + 1) ∧ M2.1 168 i = M2.1 179 (0 + 3 * i + 2)
          rw [f0 166 (by omega), f0 167 (by omega), f0 168 (by omega), f0 179 (by omega)]
          exact c6 i hi
        · rw [g4]
          by_cases hz : i = l
          · rw [if_pos hz]
            obtain ⟨o, _, o1, o2⟩ := nI_get hop.1
            exact ⟨o, by omega, o1⟩
          · rw [if_neg hz]
            exact ho i (by omega)
    · have hl24 : l = 24 := by omega
      subst hl24
      have hC : f_Law_draft 0 a1 a2 210 M = some (2, M) := by
        unfold f_Law_draft f_AP_draft
        rw [ck_e cl_0, ob_e, if_neg e1, if_pos e2, gr_0_5, ob_e, ck_e cl_165, ob_e, e_cfull1 cd_d c1 (by decide) (by decide), bd_e, if_neg (by decide), lt_r, if_neg (by decide), if_pos rfl]
      refine ⟨fm_sI M 174 0 2, ?_, n, k, s, h, Ps, Rx_c hx (eqC_I (by decide)) (eqM_t _ _)⟩
      have hD : f_Mo_draft 174 a1 a2 M = some (0, fm_sI M 174 0 2) := by
        unfold f_Mo_draft
        rw [show (16 : Int32) = nI 16 from rfl, e_out1 (by decide) (by exact hop), bd_e, if_pos rfl, gi_e cl_174, ob_e, c2, if_pos (show nI 24 = 24 from rfl)]
        exact m_draft_thr (by decide)
      unfold l_case2
      rw [hC, bd_e, ck_e cl_174, ob_e, hD, bd_e]
      exact tail_i rfl (fun h9 => absurd h9 (by decide))
  · have hC : f_Law_draft 0 a1 a2 210 M = some (1, M) := by
      unfold f_Law_draft f_AP_draft j_AP_draft_10
      rw [ck_e cl_0, ob_e]
      by_cases e1 : a1 < 0
      · rw [if_pos e1, lt_r, if_pos rfl]
      · rw [if_neg e1, if_neg (fun h9 => by
          have := (nle (k := 15) (by decide)).mp h9
          rw [lt0] at e1
          omega), lt_r, if_pos rfl]
    refine ⟨fm_sI M 174 0 1, ?_, n, k, s, h, Ps, Rx_c hx (eqC_I (by decide)) (eqM_t _ _)⟩
    have hD : f_Mo_draft 174 a1 a2 M = some (0, fm_sI M 174 0 1) := by
      unfold f_Mo_draft
      rw [show (16 : Int32) = nI 16 from rfl, e_out0 (by decide) (by exact hop), bd_e, if_neg (by decide)]
      exact m_draft_thr (by decide)
    unfold l_case2
    rw [hC, bd_e, ck_e cl_174, ob_e, hD, bd_e]
    exact tail_i rfl (fun h9 => absurd h9 (by decide))
