/-! type -/
def fok (x : Int32) : Prop := 0 ≤ x.toInt ∧ x.toInt < 4
theorem e_fc1 {x : Int32} {M : fm_M} (h : fok x) : f_AP_isFieldCount x M = some (1, M) := by unfold fok at h; rw [e_fc, if_pos h]
theorem e_fc0 {x : Int32} {M : fm_M} (h : ¬ fok x) : f_AP_isFieldCount x M = some (0, M) := by unfold fok at h; rw [e_fc, if_neg h]
theorem e_o1 {x : Int32} {M : fm_M} (h : fok x) : f_Mo_out x 4 M = some (0, M) := by rw [show (4 : Int32) = nI 4 from rfl, e_out (by decide), if_pos (show 0 ≤ x.toInt ∧ x.toInt < ((4 : Nat) : Int) from h)]
theorem e_o0 {x : Int32} {M : fm_M} (h : ¬ fok x) : f_Mo_out x 4 M = some (1, M) := by rw [show (4 : Int32) = nI 4 from rfl, e_out (by decide), if_neg (show ¬ (0 ≤ x.toInt ∧ x.toInt < ((4 : Nat) : Int)) from h)]
theorem e_has1 {x : Int32} {k : Nat} {M : fm_M} (hk : M.1 2 1 = nI k) (hn : k ≤ 6) (h : 0 ≤ x.toInt ∧ x.toInt < k) : f_Types_has 2 x M = some (1, M) := by rw [e_has hk (by omega), if_pos h]
theorem e_has0 {x : Int32} {k : Nat} {M : fm_M} (hk : M.1 2 1 = nI k) (hn : k ≤ 6) (h : ¬ (0 ≤ x.toInt ∧ x.toInt < k)) : f_Types_has 2 x M = some (0, M) := by rw [e_has hk (by omega), if_neg h]
theorem e_out1 {x : Int32} {n : Nat} {M : fm_M} (hn : n < 2147483648) (h : 0 ≤ x.toInt ∧ x.toInt < n) : f_Mo_out x (nI n) M = some (0, M) := by rw [e_out hn, if_pos h]
theorem e_out0 {x : Int32} {n : Nat} {M : fm_M} (hn : n < 2147483648) (h : ¬ (0 ≤ x.toInt ∧ x.toInt < n)) : f_Mo_out x (nI n) M = some (1, M) := by rw [e_out hn, if_neg h]
theorem c26_bad {a1 a2 a3 a4 a5 : Int32} {M : fm_M} (h : ¬ (fok a2 ∧ fok a3 ∧ fok a4 ∧ fok a5)) : j_AP_type_26 0 a1 a2 a3 a4 a5 M = some (.inr "java/lang/IllegalArgumentException", M) := by
  unfold j_AP_type_26 j_AP_type_56
  by_cases h2 : fok a2
  · rw [e_fc1 h2, bd_e, if_neg (by decide)]
    by_cases h3 : fok a3
    · rw [e_fc1 h3, bd_e, if_neg (by decide)]
      by_cases h4 : fok a4
      · rw [e_fc1 h4, bd_e, if_neg (by decide)]
        by_cases h5 : fok a5
        · exact absurd ⟨h2, h3, h4, h5⟩ h
        · rw [e_fc0 h5, bd_e, if_pos rfl]
      · rw [e_fc0 h4, bd_e, if_pos rfl]
    · rw [e_fc0 h3, bd_e, if_pos rfl]
  · rw [e_fc0 h2, bd_e, if_pos rfl]
theorem c26_good {a1 a2 a3 a4 a5 : Int32} {M : fm_M} (h : fok a2 ∧ fok a3 ∧ fok a4 ∧ fok a5) {k : Nat} (hk : M.1 2 1 = nI k) (hk6 : k ≤ 6) : j_AP_type_26 0 a1 a2 a3 a4 a5 M = if M.1 0 9 = 0 ∧ k < 6 then bd (f_Types_add 2 a1 a2 a3 a4 a5 M) fun x132 M130 => some (.inl x132, M130) else some (.inr "java/lang/IllegalStateException", M) := by
  obtain ⟨h2, h3, h4, h5⟩ := h
  unfold j_AP_type_26 j_AP_type_83
  rw [e_fc1 h2, bd_e, if_neg (by decide), e_fc1 h3, bd_e, if_neg (by decide), e_fc1 h4, bd_e, if_neg (by decide), e_fc1 h5, bd_e, if_neg (by decide), gi_e cl_0, ob_e]
  by_cases hw : M.1 0 9 = 0
  · rw [if_pos hw, gr_0_1, ob_e, ck_e cl_2, ob_e, e_full hk hk6, bd_e]
    by_cases hk7 : k < 6
    · rw [if_pos hk7, if_pos rfl, if_pos ⟨hw, hk7⟩]
      rfl
    · rw [if_neg hk7, if_neg (by decide), if_neg (fun h => hk7 h.2)]
  · rw [if_neg hw, if_neg (fun h => hw h.1)]
theorem m_type_thr {a1 a2 a3 a4 a5 v : Int32} {M : fm_M} (hv : 0 < v) : j_Mo_type_85 174 a1 a2 a3 a4 a5 174 v M = some (0, fm_sI M 174 0 v) := by
  have h0 : ¬ v ≤ 0 := by
    rw [Int32.lt_iff_toInt_lt] at hv
    rw [Int32.le_iff_toInt_le]
    omega
  unfold j_Mo_type_85
  rw [pi_e cl_174, ob_e, gi_e cl_174, ob_e]
  show (if v ≤ 0 then _ else _) = _
  rw [if_neg h0]
theorem m_type_bad {a1 a2 a3 a4 a5 : Int32} {M : fm_M} {k : Nat} (hk : M.1 174 1 = nI k) (hk6 : k ≤ 6) (h : ¬ ((-1 ≤ a1.toInt ∧ a1.toInt < k) ∧ fok a2 ∧ fok a3 ∧ fok a4 ∧ fok a5)) : f_Mo_type 174 a1 a2 a3 a4 a5 M = some (0, fm_sI M 174 0 1) := by
  have hb : j_Mo_type_51 174 a1 a2 a3 a4 a5 M = some (0, fm_sI M 174 0 1) := by
    unfold j_Mo_type_51 j_Mo_type_52
    rw [if_pos rfl]
    exact m_type_thr (by decide)
  unfold f_Mo_type
  by_cases h0 : a1 < -1
  · rw [if_pos h0, hb]
  · have h0' : -1 ≤ a1.toInt := by
      rw [Int32.lt_iff_toInt_lt] at h0
      have : (-1 : Int32).toInt = -1 := by decide
      omega
    rw [if_neg h0, gi_e cl_174, ob_e, hk]
    by_cases h1 : nI k ≤ a1
    · rw [if_pos h1, hb]
    · have h1' : a1.toInt < k := Int.not_le.mp fun h9 => h1 ((len (by omega)).mpr h9)
      rw [if_neg h1]
      by_cases h2 : fok a2
      · rw [e_o1 h2, bd_e, if_pos rfl]
        by_cases h3 : fok a3
        · rw [e_o1 h3, bd_e, if_pos rfl]
          by_cases h4 : fok a4
          · rw [e_o1 h4, bd_e, if_pos rfl]
            by_cases h5 : fok a5
            · exact absurd ⟨⟨h0', h1'⟩, h2, h3, h4, h5⟩ h
            · rw [e_o0 h5, bd_e, if_neg (by decide), hb]
          · rw [e_o0 h4, bd_e, if_neg (by decide), hb]
        · rw [e_o0 h3, bd_e, if_neg (by decide), hb]
      · rw [e_o0 h2, bd_e, if_neg (by decide), hb]
theorem m_type_good {a1 a2 a3 a4 a5 : Int32} {M : fm_M} {k : Nat} (hk : M.1 174 1 = nI k) (hk6 : k ≤ 6) (h : (-1 ≤ a1.toInt ∧ a1.toInt < k) ∧ fok a2 ∧ fok a3 ∧ fok a4 ∧ fok a5) : f_Mo_type 174 a1 a2 a3 a4 a5 M = if M.1 174 11 = 0 ∧ k < 6 then j_Mo_type_85 174 a1 a2 a3 a4 a5 174 0 M else some (0, fm_sI M 174 0 2) := by
  obtain ⟨⟨h0, h1⟩, h2, h3, h4, h5⟩ := h
  unfold f_Mo_type
  rw [if_neg (show ¬ a1 < -1 by
    rw [Int32.lt_iff_toInt_lt]
    have : (-1 : Int32).toInt = -1 := by decide
    omega), gi_e cl_174, ob_e, hk, if_neg (fun h9 => by have := (len (by omega)).mp h9; omega), e_o1 h2, bd_e, if_pos rfl, e_o1 h3, bd_e, if_pos rfl, e_o1 h4, bd_e, if_pos rfl, e_o1 h5, bd_e, if_pos rfl]
  unfold j_Mo_type_52 j_Mo_type_80
  rw [if_neg (by decide), gi_e cl_174, ob_e, hk]
  by_cases hk7 : k < 6
  · rw [if_neg (fun h9 => by have := (nI_eq (a := k) (b := 6) (by omega) (by omega)).mp h9; omega), gi_e cl_174, ob_e]
    by_cases hw : M.1 174 11 = 0
    · rw [if_pos hw, if_pos ⟨hw, hk7⟩]
    · rw [if_neg hw, if_neg (fun h9 => hw h9.1)]
      exact m_type_thr (by decide)
  · have hk8 : k = 6 := by omega
    subst hk8
    rw [if_pos (show nI 6 = 6 from rfl), if_neg (fun h9 => hk7 h9.2)]
    exact m_type_thr (by decide)
theorem WF_k {O A B E H : Nat → Int32} {l r k m s : Nat} {P : Nat → Nat → Prop} (hw : WF O A B E H l r k m s P) : WF O A B E H l r (k + 1) m s P := by
  obtain ⟨w1, w2, w3, w4, w5, w6⟩ := hw
  refine ⟨w1, fun p hp => ?_, w3, w4, w5, w6⟩
  obtain ⟨op, o1, o2, o3, o4, o5, o6, o7, o8⟩ := w2 p hp
  exact ⟨op, o1, o2, o3, o4, fun h9 => by obtain ⟨x, x1, x2⟩ := o5 h9; exact ⟨x, by omega, x2⟩, o6, o7, o8⟩
theorem p_type (a1 a2 a3 a4 a5 : Int32) {M : fm_M} (hR : Rel M M) : ∃ M', l_case0 a1 a2 a3 a4 a5 M = some M' ∧ Rel M' M' := by
  obtain ⟨n, k, s, h, Ps, hx⟩ := hR
  obtain ⟨hk6, hk, hmk, hj⟩ := hx.2.1
  have hw : M.1 0 9 = M.1 174 11 := hx.1.2.2.2.2.1
  have hm1 : (-1 : Int32).toInt = -1 := by decide
  by_cases hg : (-1 ≤ a1.toInt ∧ a1.toInt < k) ∧ fok a2 ∧ fok a3 ∧ fok a4 ∧ fok a5
  · have hC0 : f_AP_type 0 a1 a2 a3 a4 a5 M = j_AP_type_26 0 a1 a2 a3 a4 a5 M := by
      unfold f_AP_type
      by_cases h1 : a1 = -1
      · rw [if_pos h1]
      · have h1' : a1.toInt ≠ -1 := fun h9 => h1 (Int32.toInt_inj.mp (by rw [h9, hm1]))
        rw [if_neg h1, gr_0_1, ob_e, ck_e cl_2, ob_e, e_has1 hk hk6 ⟨by omega, hg.1.2⟩, bd_e, if_neg (by decide)]
    rw [c26_good hg.2 hk hk6] at hC0
    by_cases hok : M.1 0 9 = 0 ∧ k < 6
    · rw [if_pos hok] at hC0
      obtain ⟨⟨ha, hb⟩, h2, h3, h4, h5⟩ := hg
      obtain ⟨c2, -, rfl, g2⟩ := nI_get h2.1
      obtain ⟨c3, -, rfl, g3⟩ := nI_get h3.1
      obtain ⟨c4, -, rfl, g4⟩ := nI_get h4.1
      obtain ⟨c5, -, rfl, g5⟩ := nI_get h5.1
      have j2 := h2.2
      have j3 := h3.2
      have j4 := h4.2
      have j5 := h5.2
      have key : ∃ v, v ≤ 12 + 60 * k ∧ f_Types_add 2 a1 (nI c2) (nI c3) (nI c4) (nI c5) M = j_Types_add_19 2 (nI c2) (nI c3) (nI c4) (nI c5) (nI v) M ∧ ∀ M1 : fm_M, M1.1 175 = M.1 175 → j_Mo_type_85 174 a1 (nI c2) (nI c3) (nI c4) (nI c5) 174 0 M1 = j_Mo_type_112 174 (nI c2) (nI c3) (nI c4) (nI c5) (nI v) (fm_sI M1 174 0 0) := by
        by_cases h1 : a1.toInt = -1
        · refine ⟨12, by omega, ?_, fun M1 _ => ?_⟩
          · unfold f_Types_add
            rw [ck_e cl_2, ob_e, e_has0 hk hk6 (by omega), bd_e, if_pos rfl]
            rfl
          · unfold j_Mo_type_85
            rw [pi_e cl_174, ob_e, gi_e cl_174, ob_e, show (fm_sI M1 174 0 0).1 174 0 = 0 from rfl, if_pos (by decide), if_neg (show ¬ 0 ≤ a1 by rw [Int32.le_iff_toInt_le, h1]; decide)]
            rfl
        · obtain ⟨j, -, rfl, gj⟩ := nI_get (x := a1) (by omega)
          obtain ⟨v, hv1, hv2, hv3, hv4⟩ := hj j (by omega)
          refine ⟨v, by omega, ?_, fun M1 hM1 => ?_⟩
          · unfold f_Types_add
            rw [ck_e cl_2, ob_e, e_has1 hk hk6 (by omega), bd_e, if_neg (by decide), gr_2_0, ob_e, ai_n an_3 (by omega) (by decide), ob_e, hv2]
          · unfold j_Mo_type_85
            rw [pi_e cl_174, ob_e, gi_e cl_174, ob_e, show (fm_sI M1 174 0 0).1 174 0 = 0 from rfl, if_pos (by decide), if_pos (show 0 ≤ nI j by rw [Int32.le_iff_toInt_le, gj]; exact Int.natCast_nonneg j), gr_174_2, ob_e, ai_n an_175 (by omega) (by decide), ob_e, show (fm_sI M1 174 0 0).1 175 j = nI v by rw [← hv3, ← hM1]; rfl]
      obtain ⟨v, hv, hA, hB⟩ := key
      obtain ⟨v', hv', hA2, hB2⟩ := e_add19 (v := v) (c2 := c2) (c3 := c3) (c4 := c4) (c5 := c5) hk hok.2 (by omega) (by omega) (by omega) (by omega) (by omega)
      rw [hA, hA2, bd_e] at hC0
      have hC : f_Law_type 0 a1 (nI c2) (nI c3) (nI c4) (nI c5) 210 M = some (0, fm_sJ (fm_sI (fm_sI M 3 k (nI v')) 2 1 (nI (k + 1))) 210 0 (nI k).toInt64) := by
        unfold f_Law_type
        rw [ck_e cl_0, ob_e, hC0, lt_l, out_w, ob_e]
      obtain ⟨M2, hD, hM2⟩ := hB2 (fm_sI (fm_sJ (fm_sI (fm_sI M 3 k (nI v')) 2 1 (nI (k + 1))) 210 0 (nI k).toInt64) 174 0 0) hmk
      have hD' : f_Mo_type 174 a1 (nI c2) (nI c3) (nI c4) (nI c5) (fm_sJ (fm_sI (fm_sI M 3 k (nI v')) 2 1 (nI (k + 1))) 210 0 (nI k).toInt64) = some (nI k, M2) := by
        rw [m_type_good (k := k) (by exact hmk) hk6 ⟨⟨ha, hb⟩, h2, h3, h4, h5⟩, if_pos (by exact ⟨hw.symm.trans hok.1, hok.2⟩), hB _ (by rfl), hD]
      refine ⟨M2, ?_, n, k + 1, s, h, Ps, ?_⟩
      · unfold l_case0
        rw [hC, bd_e, ck_e cl_174, ob_e, hD', bd_e]
        exact tail_i (by rw [hM2]; rfl) (fun _ => by rw [hM2]; rfl)
      · obtain ⟨xa, xb, xc, xd, xe, xf, xg, xh, xi⟩ := hx
        have f0 : ∀ q, ¬ (q = 2 ∨ q = 3 ∨ q = 174 ∨ q = 175 ∨ q = 176) → M2.1 q = M.1 q := by
          intro q hq
          rw [hM2]
          funext z
          simp only [sI_r, sJ_1]
          rw [if_neg (by omega), if_neg (by omega), if_neg (by omega), if_neg (by omega), if_neg (by omega), if_neg (by omega)]
        have f1 : ∀ z, ¬ (z = 0 ∨ z = 1) → M2.1 174 z = M.1 174 z := by
          intro z hz
          rw [hM2]
          simp only [sI_r, sJ_1]
          rw [if_neg (by omega), if_neg (by omega), if_neg (by omega), if_neg (by omega), if_neg (by omega), if_neg (by omega)]
        have f2 : ∀ q, ¬ (q = 210) → M2.2.1 q = M.2.1 q := by
          intro q hq
          rw [hM2]
          funext z
          simp only [sI_2, sJ_r]
          rw [if_neg (by omega)]
        have f3 : ∀ q, ¬ (q = 1000) → M2.2.2.1 q = M.2.2.1 q := by
          intro q _
          rw [hM2]
          rfl
        have g1 : M2.1 2 1 = nI (k + 1) := by rw [hM2]; rfl
        have g2 : M2.1 174 1 = nI (k + 1) := by rw [hM2]; rfl
        have g3 : ∀ z, M2.1 3 z = if z = k then nI v' else M.1 3 z := by intro z; rw [hM2]; simp [sI_r, sJ_1]
        have g4 : ∀ z, M2.1 175 z = if z = k then nI v' else M.1 175 z := by intro z; rw [hM2]; simp [sI_r, sJ_1]
        have g5 : ∀ z, M2.1 176 z = if z = k then nI ((v' + 7) / 8 * 8) else M.1 176 z := by intro z; rw [hM2]; simp [sI_r, sJ_1]
        refine ⟨(RA_c xa (f0 0 (by omega)) (fun j a b => f1 j (by omega))), ⟨by omega, g1, g2, fun z hz => ?_⟩, (RC_c xc (fun q a b => f0 q (by omega)) (f1 4 (by omega)) (f1 7 (by omega)) (fun q a b => f0 q (by omega))), fun m hm => ?_, (RX_c xe (fun m hm => by rw [f0 (24 + 15 * m) (by omega)]) (f0 180 (by omega))), (RE_c xf (by rw [f0 0 (by omega)]) (f0 7 (by omega)) (fun q a b => ⟨f0 q (by omega), f2 q (by omega), f3 q (by omega)⟩) (f1 23 (by omega)) (f1 42 (by omega)) (f1 44 (by omega)) (fun q a b => ⟨f0 q (by omega), f2 q (by omega), f3 q (by omega)⟩)), (RF_c xg (f0 5 (by omega)) (f0 6 (by omega)) (f1 35 (by omega)) (f0 200 (by omega))), (RG_c xh (f0 1 (by omega)) (f1 33 (by omega)) (f1 34 (by omega))), (RS_c xi xa.1 (by rw [f0 0 (by omega)]) (fun m hm => f0 _ (by omega)) (fun q a b => f0 q (by omega)) (fun q a b => f0 q (by omega)))⟩
        · rw [g3, g4, g5]
          by_cases hz2 : z = k
          · subst hz2
            rw [if_pos rfl, if_pos rfl, if_pos rfl]
            exact ⟨v', by omega, rfl, rfl, rfl⟩
          · rw [if_neg hz2, if_neg hz2, if_neg hz2]
            exact hj z (by omega)
        · obtain ⟨l, r, wl, a, b, c, d, e, ⟨P0, f⟩, g, i⟩ := (RD_c xd xa.1 (fun q a b => f0 q (by omega)) (fun q a b => f0 q (by omega))) m hm
          exact ⟨l, r, wl, a, b, c, d, e, ⟨P0, WF_k f⟩, WF_k g, i⟩
    · rw [if_neg hok] at hC0
      have hC : f_Law_type 0 a1 a2 a3 a4 a5 210 M = some (2, M) := by
        unfold f_Law_type
        rw [ck_e cl_0, ob_e, hC0, lt_r, if_neg (by decide), if_pos rfl]
      refine ⟨fm_sI M 174 0 2, ?_, n, k, s, h, Ps, Rx_c hx (eqC_I (by decide)) (eqM_t _ _)⟩
      unfold l_case0
      rw [hC, bd_e, ck_e cl_174, ob_e, m_type_good hmk hk6 hg, if_neg (fun h9 => hok ⟨hw.trans h9.1, h9.2⟩), bd_e]
      exact tail_i rfl (fun h9 => absurd h9 (by decide))
  · have hC0 : f_AP_type 0 a1 a2 a3 a4 a5 M = some (.inr "java/lang/IllegalArgumentException", M) := by
      unfold f_AP_type
      by_cases h1 : a1 = -1
      · rw [if_pos h1]
        refine c26_bad (fun h9 => hg ⟨?_, h9⟩)
        rw [h1, hm1]
        omega
      · have h1' : a1.toInt ≠ -1 := fun h9 => h1 (Int32.toInt_inj.mp (by rw [h9, hm1]))
        rw [if_neg h1, gr_0_1, ob_e, ck_e cl_2, ob_e]
        by_cases h2 : 0 ≤ a1.toInt ∧ a1.toInt < k
        · rw [e_has1 hk hk6 h2, bd_e, if_neg (by decide)]
          exact c26_bad (fun h9 => hg ⟨by omega, h9⟩)
        · rw [e_has0 hk hk6 h2, bd_e, if_pos rfl]
    have hC : f_Law_type 0 a1 a2 a3 a4 a5 210 M = some (1, M) := by
      unfold f_Law_type
      rw [ck_e cl_0, ob_e, hC0, lt_r, if_pos rfl]
    refine ⟨fm_sI M 174 0 1, ?_, n, k, s, h, Ps, Rx_c hx (eqC_I (by decide)) (eqM_t _ _)⟩
    unfold l_case0
    rw [hC, bd_e, ck_e cl_174, ob_e, m_type_bad hmk hk6 hg, bd_e]
    exact tail_i rfl (fun h9 => absurd h9 (by decide))
