/-! start -/
theorem e_running {t a : Nat} {M : fm_M} (ht : t < 3) (ha : M.1 (114 + 17 * t) 2 = nI a) (ha5 : a ≤ 5) : f_Strand_isRunning (114 + 17 * t) M = some (if a = 0 then 0 else 1, M) := by
  unfold f_Strand_isRunning
  rw [gi_e (cl_t t ht), ob_e, ha]
  by_cases h : a = 0
  · subst h
    rw [if_pos (show nI 0 ≤ 0 by decide), if_pos rfl]
  · rw [if_neg (nI_nle (by omega) (by omega)), if_neg h]
/-- the other threads stay -/
theorem SR_o {n t u : Nat} {Ps : Nat → Nat → Nat → Prop} {Mc Mm Mc' Mm' : fm_M} (h : SR Mc Mm n Ps u) (hn : n ≤ 6) (hu : u < 3) (hut : u ≠ t) (h9 : Mc'.1 0 9 = Mc.1 0 9) (h0 : ∀ m, m < 6 → Mc'.1 (35 + 15 * m) = Mc.1 (35 + 15 * m)) (h1 : ∀ q, 114 ≤ q → q ≤ 164 → ¬ (114 + 17 * t ≤ q ∧ q ≤ 130 + 17 * t) → Mc'.1 q = Mc.1 q) (h2 : ∀ q, 192 ≤ q → q ≤ 194 → ∀ j, j ≠ t → Mm'.1 q j = Mm.1 q j) (h3 : ∀ q, 195 ≤ q → q ≤ 197 → ∀ j, ¬ (5 * t ≤ j ∧ j < 5 * t + 5) → Mm'.1 q j = Mm.1 q j) (h4 : ∀ j, ¬ (20 * t ≤ j ∧ j < 20 * t + 20) → Mm'.1 198 j = Mm.1 198 j) (h5 : ∀ j, ¬ (30 * t ≤ j ∧ j < 30 * t + 30) → Mm'.1 199 j = Mm.1 199 j) : SR Mc' Mm' n Ps u := by
  obtain ⟨a, c, b1, b2, b3, b4, b5, b6⟩ := h
  have g0 := h1 (114 + 17 * u) (by omega) (by omega) (by omega)
  refine ⟨by rw [g0]; exact a, c, b1, by rw [g0]; exact b2, by rw [h2 192 (by decide) (by decide) u hut]; exact b3, by rw [g0, h2 193 (by decide) (by decide) u hut, h2 194 (by decide) (by decide) u hut]; exact b4, by rw [h9, h2 193 (by decide) (by decide) u hut]; exact b5, fun f hf => ?_⟩
  obtain ⟨p, d, w, h8, h10⟩ := b6 f hf
  obtain ⟨s1, s2, s3, s4, s5, s6, s7, s8, s9⟩ := h8
  refine ⟨p, d, w, ⟨?_, ?_, ?_, ?_, ?_, ?_, fun j hj => ?_, fun j hj => ?_, s9⟩, FI_c h10 hn h0⟩
  · rw [h1 _ (by omega) (by omega) (by omega)]; exact s1
  · rw [h1 _ (by omega) (by omega) (by omega)]; exact s2
  · rw [h1 _ (by omega) (by omega) (by omega)]; exact s3
  · rw [h3 195 (by decide) (by decide) _ (by omega)]; exact s4
  · rw [h3 196 (by decide) (by decide) _ (by omega)]; exact s5
  · rw [h3 197 (by decide) (by decide) _ (by omega)]; exact s6
  · rw [h1 _ (by omega) (by omega) (by omega), h4 _ (by omega)]; exact s7 j hj
  · rw [h1 _ (by omega) (by omega) (by omega), h5 _ (by omega)]; exact s8 j hj
theorem p_start (a1 a2 a3 : Int32) {M : fm_M} (hR : Rel M M) : ∃ M', l_case11 a1 a2 a3 M = some M' ∧ Rel M' M' := by
  obtain ⟨n, k, s, h, Ps, hx⟩ := hR
  obtain ⟨hn6, hn, hmn, -, hw, hw2⟩ := hx.1
  have thr : ∀ v : Int32, 0 < v → j_Mo_start_46 174 a1 a2 a3 174 v M = some (fm_sI M 174 0 v) := by
    intro v hv
    have h0 : ¬ v ≤ 0 := by
      rw [Int32.lt_iff_toInt_lt] at hv
      rw [Int32.le_iff_toInt_le]
      omega
    unfold j_Mo_start_46
    rw [pi_e cl_174, ob_e, gi_e cl_174, ob_e, show (fm_sI M 174 0 v).1 174 0 = v from rfl, if_neg h0]
  have fin : ∀ v : Int32, f_Law_start 0 a1 a2 a3 M = some (v, M) → f_Mo_start 174 a1 a2 a3 M = some (fm_sI M 174 0 v) → ∃ M', l_case11 a1 a2 a3 M = some M' ∧ Rel M' M' := by
    intro v hC hD
    refine ⟨fm_sI M 174 0 v, ?_, n, k, s, h, Ps, Rx_c hx (eqC_I (by decide)) (eqM_t _ _)⟩
    unfold l_case11
    rw [hC, bd_e, ck_e cl_174, ob_e, hD, ob_e]
    exact tail_v rfl
  by_cases ht : 0 ≤ a1.toInt ∧ a1.toInt < 3
  · obtain ⟨t, -, rfl, htt⟩ := nI_get ht.1
    have ht3 : t < 3 := by omega
    by_cases hm : 0 ≤ a2.toInt ∧ a2.toInt < n
    · obtain ⟨m, -, rfl, hmm⟩ := nI_get hm.1
      have hm6 : m < 6 := by omega
      obtain ⟨sn, a, s1, s2, s3, s4, s5, s6⟩ := hx.2.2.2.2.2.2.2.2 t ht3
      by_cases hww : M.1 0 9 = 0
      · refine fin 2 ?_ ?_
        · unfold f_Law_start f_AP_start j_AP_start_31
          rw [ck_e cl_0, ob_e, e_needT1 ht3, xd_l, ob_e, e_needM1 hn hn6 hm, xd_l, gi_e cl_0, ob_e, if_pos hww, lt_r, if_neg (by decide), if_pos rfl]
        · unfold f_Mo_start j_Mo_start_41
          rw [show (3 : Int32) = nI 3 from rfl, e_out1 (by decide) ht, bd_e, if_pos rfl, gi_e cl_174, ob_e, hmn, e_out1 (by omega) hm, bd_e, if_pos rfl, gi_e cl_174, ob_e, if_pos (hw.symm.trans hww)]
          exact thr 2 (by decide)
      · by_cases ha : a = 0
        · subst ha
          have st0 : ¬ M.1 193 t = 1 := by
            rcases (s4 rfl).2.2 with h9 | h9 | h9 <;> rw [h9] <;> decide
          obtain ⟨M1, c1, c2, c3, c4, c5, c6, c7, c8⟩ := e_enter (m := nI m) (x := a3) ht3 s2 (by decide)
          have hC : f_Law_start 0 (nI t) (nI m) a3 M = some (0, M1) := by
            unfold f_Law_start f_AP_start
            rw [ck_e cl_0, ob_e, e_needT1 ht3, xd_l, ob_e, e_needM1 hn hn6 hm, xd_l, gi_e cl_0, ob_e, if_neg hww, gr_0_0, ob_e, gr_1_4, ob_e, ar_t t ht3, ob_e, ck_e (cl_t t ht3), ob_e, e_running ht3 s2 (by decide), bd_e, if_pos rfl, if_pos rfl, ob_e, gr_1_4, ob_e, ar_t t ht3, ob_e, ck_e (cl_t t ht3), ob_e, c1, ob_e, lt_l]
          generalize hM2 : fm_sI (fm_sI (fm_sI M1 174 0 0) 192 t 0) 193 t 1 = M2
          have k1 : ∀ q, ¬ (q = 174 ∨ q = 192 ∨ q = 193) → M2.1 q = M1.1 q := by
            intro q hq
            rw [← hM2]
            funext z
            simp only [sI_r]
            rw [if_neg (by omega), if_neg (by omega), if_neg (by omega)]
          have k2 : ∀ j, M2.1 174 j = if j = 0 then 0 else M.1 174 j := by
            intro j
            rw [← hM2]
            simp only [sI_r]
            rw [if_neg (by omega), if_neg (by omega), c3 174 (by omega)]
            simp
          have k3 : ∀ j, M2.1 192 j = if j = t then 0 else M.1 192 j := by
            intro j
            rw [← hM2]
            simp only [sI_r]
            rw [if_neg (by omega), c3 192 (by omega)]
            simp
          have k4 : ∀ j, M2.1 193 j = if j = t then 1 else M.1 193 j := by
            intro j
            rw [← hM2]
            simp only [sI_r]
            rw [c3 193 (by omega)]
            simp
          have k5 : M2.2 = M.2 := by rw [← hM2]; exact c2
          obtain ⟨M3, d1, d2, d3, d4, d5, d6, d7, d8⟩ := e_menter (M := M2) (a := 0) (m := nI m) (x := a3) ht3 (by rw [k3, if_pos rfl]; rfl) (by decide)
          have hD : f_Mo_start 174 (nI t) (nI m) a3 M1 = some M3 := by
            have q9 : M1.1 174 9 = nI n := by rw [c3 174 (by omega)]; exact hmn
            have q11 : ¬ M1.1 174 11 = 0 := by rw [c3 174 (by omega), ← hw]; exact hww
            have q193 : ¬ M1.1 193 t = 1 := by rw [c3 193 (by omega)]; exact st0
            unfold f_Mo_start j_Mo_start_46
            rw [show (3 : Int32) = nI 3 from rfl, e_out1 (by decide) ht, bd_e, if_pos rfl, gi_e cl_174, ob_e, q9, e_out1 (by omega) hm, bd_e, if_pos rfl, gi_e cl_174, ob_e, if_neg q11, gr_174_26, ob_e, ai_n an_193 ht3 (by decide), ob_e, if_neg q193, pi_e cl_174, ob_e, gi_e cl_174, ob_e, show (fm_sI M1 174 0 0).1 174 0 = 0 from rfl, if_pos (by decide), gr_174_25, ob_e, si_n an_192 ht3 (by decide), ob_e, ob_e, si_n an_193 ht3 (by decide), ob_e, ck_e cl_174, ob_e, hM2, d1, ob_e]
          refine ⟨M3, ?_, n, k, s, h, Ps, ?_⟩
          · unfold l_case11
            rw [hC, bd_e, ck_e cl_174, ob_e, hD, ob_e]
            exact tail_v (by rw [d3 174 (by omega), k2, if_pos rfl])
          · have f0 : ∀ q, ¬ (q = 114 + 17 * t ∨ q = 116 + 17 * t ∨ q = 117 + 17 * t ∨ q = 174 ∨ q = 192 ∨ q = 193 ∨ q = 195 ∨ q = 196 ∨ q = 197 ∨ q = 198) → M3.1 q = M.1 q := by
              intro q hq
              rw [d3 q (by omega), k1 q (by omega), c3 q (by omega)]
            have f1 : ∀ z, ¬ (z = 0) → M3.1 174 z = M.1 174 z := by
              intro z hz
              rw [d3 174 (by omega), k2, if_neg hz]
            have f2 : ∀ q, ¬ (q = 1000) → M3.2.1 q = M.2.1 q := fun q _ => by rw [d2, k5]
            have f3 : ∀ q, ¬ (q = 1000) → M3.2.2.1 q = M.2.2.1 q := fun q _ => by rw [d2, k5]
            obtain ⟨xa, xb, xc, xd, xe, xf, xg, xh, xi⟩ := hx
            refine ⟨(RA_c xa (f0 0 (by omega)) (fun j a b => f1 j (by omega))), (RB_c xb (f0 2 (by omega)) (f0 3 (by omega)) (f1 1 (by omega)) (f0 175 (by omega)) (f0 176 (by omega))), (RC_c xc (fun q a b => f0 q (by omega)) (f1 4 (by omega)) (f1 7 (by omega)) (fun q a b => f0 q (by omega))), (RD_c xd xa.1 (fun q a b => f0 q (by omega)) (fun q a b => f0 q (by omega))), (RX_c xe (fun m hm => by rw [f0 (24 + 15 * m) (by omega)]) (f0 180 (by omega))), (RE_c xf (by rw [f0 0 (by omega)]) (f0 7 (by omega)) (fun q a b => ⟨f0 q (by omega), f2 q (by omega), f3 q (by omega)⟩) (f1 23 (by omega)) (f1 42 (by omega)) (f1 44 (by omega)) (fun q a b => ⟨f0 q (by omega), f2 q (by omega), f3 q (by omega)⟩)), (RF_c xg (f0 5 (by omega)) (f0 6 (by omega)) (f1 35 (by omega)) (f0 200 (by omega))), (RG_c xh (f0 1 (by omega)) (f1 33 (by omega)) (f1 34 (by omega))), fun u hu => ?_⟩
            by_cases hut : u = t
            · subst hut
              have z1 : ∀ j, M3.1 (114 + 17 * u) j = if j = 2 then nI 1 else M.1 (114 + 17 * u) j := by
                intro j
                rw [d3 _ (by omega), k1 _ (by omega), c4]
              have z2 : M3.1 (116 + 17 * u) = M1.1 (116 + 17 * u) := by rw [d3 _ (by omega), k1 _ (by omega)]
              have z3 : M3.1 (116 + 17 * u + 3 * 0 + 1) = M1.1 (116 + 17 * u + 3 * 0 + 1) := by rw [d3 _ (by omega), k1 _ (by omega)]
              refine ⟨by rw [z1, if_neg (by decide)]; exact sn, 1, by decide, by rw [z1, if_pos rfl], by rw [d4, if_pos rfl], fun h9 => absurd h9 (by decide), fun _ => ⟨by rw [d3 193 (by omega), k4, if_pos rfl], by rw [f0 0 (by omega)]; exact hw2.resolve_left hww⟩, fun f hf => ?_⟩
              have hf0 : f = 0 := by omega
              subst hf0
              refine ⟨0, 0, m, ⟨by show M3.1 (116 + 17 * u) 2 = nI m; rw [z2]; exact c5, by show M3.1 (116 + 17 * u) 3 = nI 0; rw [z2]; exact c6, by show M3.1 (116 + 17 * u) 4 = nI 0; rw [z2]; exact c7, by rw [d5, if_pos rfl], by rw [d6, if_pos rfl]; rfl, by rw [d7, if_pos rfl]; rfl, fun j hj => ?_, fun j hj => absurd hj (Nat.not_lt_zero _), by decide⟩, by omega, Or.inl ⟨rfl, ?_⟩⟩
              · rw [z3, d8, c8 j hj]
                by_cases hj0 : j = 0
                · rw [if_pos hj0, if_pos (by omega)]
                · rw [if_neg hj0, if_neg (by omega), if_pos (by omega)]
              · obtain ⟨l, r, wl, -, -, -, -, -, -, w, -⟩ := xd m (by omega)
                exact w.2.2.2.2.1
            · exact SR_o (t := t) (xi u hu) xa.1 hu hut (by rw [f0 0 (by omega)]) (fun m hm => f0 _ (by omega)) (fun q a b c => f0 q (by omega)) (fun q a b j hj => by
                rcases (show q = 192 ∨ q = 193 ∨ q = 194 by omega) with h9 | h9 | h9 <;> subst h9
                · rw [d4, if_neg hj, k3, if_neg hj]
                · rw [d3 193 (by omega), k4, if_neg hj]
                · rw [f0 194 (by omega)]) (fun q a b j hj => by
                rcases (show q = 195 ∨ q = 196 ∨ q = 197 by omega) with h9 | h9 | h9 <;> subst h9
                · rw [d5, if_neg (by omega), k1 195 (by omega), c3 195 (by omega)]
                · rw [d6, if_neg (by omega), k1 196 (by omega), c3 196 (by omega)]
                · rw [d7, if_neg (by omega), k1 197 (by omega), c3 197 (by omega)]) (fun j hj => by rw [d8, if_neg (by omega), if_neg (by omega), k1 198 (by omega), c3 198 (by omega)]) (fun j hj => by rw [f0 199 (by omega)])
        · refine fin 2 ?_ ?_
          · unfold f_Law_start f_AP_start j_AP_start_31
            rw [ck_e cl_0, ob_e, e_needT1 ht3, xd_l, ob_e, e_needM1 hn hn6 hm, xd_l, gi_e cl_0, ob_e, if_neg hww, gr_0_0, ob_e, gr_1_4, ob_e, ar_t t ht3, ob_e, ck_e (cl_t t ht3), ob_e, e_running ht3 s2 s1, bd_e, if_neg ha, if_neg (by decide), lt_r, if_neg (by decide), if_pos rfl]
          · unfold f_Mo_start j_Mo_start_41
            rw [show (3 : Int32) = nI 3 from rfl, e_out1 (by decide) ht, bd_e, if_pos rfl, gi_e cl_174, ob_e, hmn, e_out1 (by omega) hm, bd_e, if_pos rfl, gi_e cl_174, ob_e, if_neg (fun h9 => hww (hw.trans h9)), gr_174_26, ob_e, ai_n an_193 ht3 (by decide), ob_e, if_pos (s5 (by omega)).1]
            exact thr 2 (by decide)
    · refine fin 1 ?_ ?_
      · unfold f_Law_start f_AP_start
        rw [ck_e cl_0, ob_e, e_needT1 ht3, xd_l, ob_e, e_needM0 hn hn6 hm, xd_r, lt_r, if_pos rfl]
      · unfold f_Mo_start j_Mo_start_20
        rw [show (3 : Int32) = nI 3 from rfl, e_out1 (by decide) ht, bd_e, if_pos rfl, gi_e cl_174, ob_e, hmn, e_out0 (by omega) hm, bd_e, if_neg (by decide)]
        exact thr 1 (by decide)
  · refine fin 1 ?_ ?_
    · unfold f_Law_start f_AP_start
      rw [ck_e cl_0, ob_e, e_needT0 ht, xd_r, lt_r, if_pos rfl]
    · unfold f_Mo_start j_Mo_start_20
      rw [show (3 : Int32) = nI 3 from rfl, e_out0 (by decide) ht, bd_e, if_neg (by decide)]
      exact thr 1 (by decide)
