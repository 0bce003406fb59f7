/-! fading; a step; run -/
section FADE
variable {s h i : Nat} {C N : fm_M}
theorem RE_fade {R : UInt32} (hx : RE s h C N) (hi : i < 78) (hR : pos32 R) : RE s h (fm_sJ (fm_sF C 18 i R) 16 i 0) (fm_sJ (fm_sF N 204 i R) 205 i (N.2.1 202 (3 * i) + N.2.1 202 (3 * i + 1) + N.2.1 202 (3 * i + 2))) := by
  obtain ⟨a, b, c, d, ⟨e1, e2, e3⟩, ⟨f1, f2, f3⟩, g, j⟩ := hx
  have r1 : ∀ q z, q ≠ 16 → (fm_sJ (fm_sF C 18 i R) 16 i 0).2.1 q z = C.2.1 q z := fun q z hq => by rw [sJ_r, if_neg (fun h => hq h.1)]; rfl
  have r2 : ∀ q z, q ≠ 205 → (fm_sJ (fm_sF N 204 i R) 205 i (N.2.1 202 (3 * i) + N.2.1 202 (3 * i + 1) + N.2.1 202 (3 * i + 2))).2.1 q z = N.2.1 q z := fun q z hq => by rw [sJ_r, if_neg (fun h => hq h.1)]; rfl
  refine ⟨a, b, c, d, ⟨fun t ht z hz => ?_, fun t ht z hz => ?_, fun z h1 h2 => ?_⟩, ⟨fun z hz => ?_, f2, fun z hz => ?_⟩, g, j⟩
  · rw [r2 _ _ (by decide)]
    exact e1 t ht z hz
  · rw [r2 _ _ (by decide), r1 _ _ (by omega)]
    exact e2 t ht z hz
  · rw [r2 _ _ (by decide)]
    exact e3 z h1 h2
  · rw [r2 202 _ (by decide), r2 202 _ (by decide), r2 202 _ (by decide), sJ_r, sJ_r]
    by_cases hzi : z = i
    · subst hzi
      rw [if_pos ⟨rfl, rfl⟩, if_pos ⟨rfl, rfl⟩]
      exact ⟨0, by omega, rfl, by rw [Int64.sub_self]; rfl⟩
    · rw [if_neg (fun h => hzi h.2), if_neg (fun h => hzi h.2)]
      exact f1 z hz
  · show (fm_sF C 18 i R).2.2.1 18 z = (fm_sF N 204 i R).2.2.1 204 z ∧ pos32 ((fm_sF C 18 i R).2.2.1 18 z)
    rw [sF_r, sF_r]
    by_cases hzi : z = i
    · rw [if_pos ⟨rfl, hzi⟩, if_pos ⟨rfl, hzi⟩]
      exact ⟨rfl, hR⟩
    · rw [if_neg (fun h => hzi h.2), if_neg (fun h => hzi h.2)]
      exact f3 z hz
def fdC (C C' : fm_M) : Prop := C'.1 = C.1 ∧ (∀ q, q ≠ 16 → C'.2.1 q = C.2.1 q) ∧ ∀ q, q ≠ 18 → C'.2.2.1 q = C.2.2.1 q
def fdM (C C' : fm_M) : Prop := C'.1 = C.1 ∧ (∀ q, q ≠ 205 → C'.2.1 q = C.2.1 q) ∧ ∀ q, q ≠ 204 → C'.2.2.1 q = C.2.2.1 q
theorem fade_l (hh : h ≤ 400) : ∀ (k i n1 n2 : Nat) (C N : fm_M), i + k = s → k < n1 → k < n2 → RE s h C N → ∃ C' N', h_Ledger_fade_2 n1 7 (nI i) C = some C' ∧ h_Mo_fade_2 n2 174 (nI i) N = some N' ∧ RE s h C' N' ∧ fdC C C' ∧ fdM N N'
  | 0, i, n1 + 1, n2 + 1, C, N, hi, _, _, hx => by
    have : i = s := by omega
    subst this
    have hs := hx.1
    refine ⟨C, N, ?_, ?_, hx, ⟨rfl, fun _ _ => rfl, fun _ _ => rfl⟩, ⟨rfl, fun _ _ => rfl, fun _ _ => rfl⟩⟩
    · rw [h_Ledger_fade_2, gi_e cl_7, ob_e, hx.2.1, if_pos (nI_le (Nat.le_refl _) (by omega))]
    · rw [h_Mo_fade_2, gi_e cl_174, ob_e, hx.2.2.1, if_pos (nI_le (Nat.le_refl _) (by omega))]
  | k + 1, i, n1 + 1, n2 + 1, C, N, hi, h1, h2, hx => by
    have hs := hx.1
    have hi78 : i < 78 := by omega
    obtain ⟨f, f1, f2, f3⟩ := hx.2.2.2.2.2.1.1 i hi78
    obtain ⟨r1, r2⟩ := hx.2.2.2.2.2.1.2.2 i hi78
    have pa := pos_75 r2
    have pb := pos_25 (pos_l2f (k := f) (by omega))
    have pc := pos_add pa pb
    obtain ⟨C', N', g1, g2, g3, g4, g5⟩ := fade_l hh k (i + 1) n1 n2 _ _ (by omega) (by omega) (by omega) (RE_fade (i := i) hx hi78 pc)
    refine ⟨C', N', ?_, ?_, g3, ⟨g4.1, fun q hq => ?_, fun q hq => ?_⟩, ⟨g5.1, fun q hq => ?_, fun q hq => ?_⟩⟩
    · rw [h_Ledger_fade_2, gi_e cl_7, ob_e, hx.2.1, if_neg (nI_ge (by omega) (by omega)), gr_7_4, ob_e, ob_e, af_n an_18 hi78 (by decide), ob_e, pos_nn pa, ob_e, gr_7_2, ob_e, aj_n an_16 hi78 (by decide), ob_e, f2, pos_nn pb, ob_e, pos_nn pc, ob_e, sf_n an_18 hi78 (by decide), ob_e, ob_e, sj_n an_16 hi78 (by decide), ob_e, nI_1]
      exact g1
    · have e5 : N.2.1 202 (3 * i) + N.2.1 202 (3 * i + 1) + N.2.1 202 (3 * i + 2) - N.2.1 205 i = lN f := f3
      rw [h_Mo_fade_2, gi_e cl_174, ob_e, hx.2.2.1, if_neg (nI_ge (by omega) (by omega)), gr_174_38, ob_e, e_moall an_202 (by omega), bd_e, gr_174_40, ob_e, ob_e, af_n an_204 (by omega) (by decide), ob_e, ← r1, pos_nn pa, ob_e, gr_174_41, ob_e, aj_n an_205 (by omega) (by decide), ob_e, e5, pos_nn pb, ob_e, pos_nn pc, ob_e, sf_n an_204 (by omega) (by decide), ob_e, ob_e, sj_n an_205 (by omega) (by decide), ob_e, nI_1]
      exact g2
    · rw [g4.2.1 q hq]
      funext z
      rw [sJ_r, if_neg (fun h => hq h.1)]
      rfl
    · rw [g4.2.2 q hq]
      funext z
      show (fm_sF C 18 i _).2.2.1 q z = _
      rw [sF_r, if_neg (fun h => hq h.1)]
    · rw [g5.2.1 q hq]
      funext z
      rw [sJ_r, if_neg (fun h => hq h.1)]
      rfl
    · rw [g5.2.2 q hq]
      funext z
      show (fm_sF N 204 i _).2.2.1 q z = _
      rw [sF_r, if_neg (fun h => hq h.1)]
theorem fade (hh : h ≤ 400) (hx : RE s h C N) : ∃ C' N', f_Ledger_fade 7 C = some C' ∧ f_Mo_fade 174 N = some N' ∧ RE s h C' N' ∧ fdC C C' ∧ fdM N N' := fade_l hh s 0 100000 100000 C N (by omega) (by have := hx.1; omega) (by have := hx.1; omega) hx
end FADE
theorem rem16 (Y : Int32) : (Y - Y / 16 * 16 = 0) ↔ Y.toInt % 16 = 0 := by
  have h1 : -2147483648 ≤ Y.toInt := Int32.le_toInt Y
  have h2 : Y.toInt < 2147483648 := Int32.toInt_lt Y
  have h16 : (16 : Int32).toInt = 16 := by decide
  obtain ⟨q, q1, q2, q3⟩ : ∃ q : Int, (Y / 16).toInt = q ∧ (0 ≤ Y.toInt → q = Y.toInt / 16) ∧ (Y.toInt < 0 → q = -((-Y.toInt) / 16)) := by
    refine ⟨_, rfl, fun h => ?_, fun h => ?_⟩
    · rw [Int32.toInt_div, h16, Int.tdiv_eq_ediv_of_nonneg h, Int.bmod_eq_of_le (by omega) (by omega)]
    · obtain ⟨m, hm⟩ : ∃ m : Int, Y.toInt = -m := ⟨-Y.toInt, by omega⟩
      rw [Int32.toInt_div, h16, hm, Int.neg_tdiv, Int.tdiv_eq_ediv_of_nonneg (by omega), Int.bmod_eq_of_le (by omega) (by omega), Int.neg_neg]
  have hv : (Y - Y / 16 * 16).toInt = Y.toInt - q * 16 := by
    have hi : (q * 16).bmod (2 ^ 32) = q * 16 := Int.bmod_eq_of_le (by omega) (by omega)
    rw [Int32.toInt_sub, Int32.toInt_mul, q1, h16, hi]
    exact Int.bmod_eq_of_le (by omega) (by omega)
  constructor
  · intro h
    have := congrArg Int32.toInt h
    rw [hv, show (0 : Int32).toInt = 0 from by decide] at this
    omega
  · intro h
    apply Int32.toInt_inj.mp
    rw [hv, show (0 : Int32).toInt = 0 from by decide]
    omega
theorem inc16 {X : Int32} {f : Nat} (h : X.toInt % 16 = (f : Int)) : (X + 1).toInt % 16 = ((f : Int) + 1) % 16 := by
  have h1 : -2147483648 ≤ X.toInt := Int32.le_toInt X
  have h2 : X.toInt < 2147483648 := Int32.toInt_lt X
  rw [Int32.toInt_add, show (1 : Int32).toInt = 1 from by decide]
  by_cases h3 : X.toInt = 2147483647
  · rw [h3] at h ⊢
    rw [show (2147483647 + 1 : Int).bmod (2 ^ 32) = -2147483648 from by decide]
    omega
  · rw [Int.bmod_eq_of_le (by omega) (by omega)]
    omega
section STEP
variable {n k s h t f v : Nat} {M Mc Mm : fm_M} {Ps : Nat → Nat → Nat → Prop}
theorem m3 (v : Nat) (hv : v < 10) : (nI v + 1) - (nI v + 1) / 3 * 3 = nI ((v + 1) % 3) := by rw [nI_1, show (3 : Int32) = nI 3 from rfl, pk_rem (by omega) (by decide) (by decide)]
theorem tn_tn (a b : Int32) : fm_sI (fm_sI M 1 5 a) 1 5 b = fm_sI M 1 5 b := by
  show (fm_u (fm_u M.1 1 5 a) 1 5 b, M.2) = (fm_u M.1 1 5 b, M.2)
  congr 1
  funext q z
  simp only [fm_u]
  split <;> simp_all
theorem cs_no {i m : Nat} (hi : i < 3) (hv : v < 3) (h5 : M.1 1 5 = nI v) (ha : M.1 (114 + 17 * v) 2 = nI 0) : h_Machine_step_2 (m + 1) 1 (nI i) M = h_Machine_step_2 m 1 (nI (i + 1)) (fm_sI M 1 5 (nI ((v + 1) % 3))) := by
  rw [h_Machine_step_2, if_neg (show ¬ 3 ≤ nI i from nI_ge (b := 3) hi (by decide)), gr_1_4, ob_e, gi_e cl_1, ob_e, h5, ar_t v hv, ob_e, ob_e, m3 v (by omega), pi_e cl_1, ob_e, ck_e (cl_t v hv), ob_e, e_running hv (a := 0) (by rw [row_ne (by omega)]; exact ha) (by decide), bd_e, if_pos rfl, if_pos rfl, nI_1]
theorem cs_yes {i m : Nat} (hi : i < 3) (hv : v < 3) (hf : f < 5) (h5 : M.1 1 5 = nI v) (ha : M.1 (114 + 17 * v) 2 = nI (f + 1)) : h_Machine_step_2 (m + 1) 1 (nI i) M = (f_Machine_perform 1 (114 + 17 * v) (fm_sI M 1 5 (nI ((v + 1) % 3)))).bind fun M118 => (f_Machine_countStep 1 M118).bind fun M121 => some (1, M121) := by
  rw [h_Machine_step_2, if_neg (show ¬ 3 ≤ nI i from nI_ge (b := 3) hi (by decide)), gr_1_4, ob_e, gi_e cl_1, ob_e, h5, ar_t v hv, ob_e, ob_e, m3 v (by omega), pi_e cl_1, ob_e, ck_e (cl_t v hv), ob_e, e_running hv (a := f + 1) (by rw [row_ne (by omega)]; exact ha) (by omega), show (if f + 1 = 0 then (0 : Int32) else 1) = 1 from if_neg (by omega), bd_e, if_neg (by decide), ck_e cl_1, ob_e]
  rfl
theorem nx_i {i : Nat} (hi : i < 3) (hv : v < 3) : (nI v + nI i) - (nI v + nI i) / 3 * 3 = nI ((v + i) % 3) := by rw [nI_add, show (3 : Int32) = nI 3 from rfl, pk_rem (by omega) (by decide) (by decide)]
theorem nx_no {i m : Nat} (hi : i < 3) (hv : v < 3) (h5 : M.1 174 33 = nI v) (ha : ¬ M.1 193 ((v + i) % 3) = 1) : h_Mo_next_2 (m + 1) 174 (nI i) M = h_Mo_next_2 m 174 (nI (i + 1)) M := by
  rw [h_Mo_next_2, if_neg (show ¬ 3 ≤ nI i from nI_ge (b := 3) hi (by decide)), gr_174_26, ob_e, gi_e cl_174, ob_e, h5, nx_i hi hv, ai_n an_193 (by omega) (by decide), ob_e, if_neg ha, nI_1]
theorem nx_yes {i m : Nat} (hi : i < 3) (hv : v < 3) (h5 : M.1 174 33 = nI v) (ha : M.1 193 ((v + i) % 3) = 1) : h_Mo_next_2 (m + 1) 174 (nI i) M = some (nI ((v + i) % 3), M) := by
  rw [h_Mo_next_2, if_neg (show ¬ 3 ≤ nI i from nI_ge (b := 3) hi (by decide)), gr_174_26, ob_e, gi_e cl_174, ob_e, h5, nx_i hi hv, ai_n an_193 (by omega) (by decide), ob_e, if_pos ha, ob_e, nx_i hi hv]
/-- whose turn it is -/
theorem pick (hx : Rx n k s h Ps Mc Mm) : (∃ v, Mc.1 1 5 = nI v ∧ f_Machine_step 1 Mc = some (0, fm_sI Mc 1 5 (nI v)) ∧ f_Mo_next 174 Mm = some (-1, Mm)) ∨ ∃ t f, t < 3 ∧ f < 5 ∧ Mc.1 (114 + 17 * t) 2 = nI (f + 1) ∧ f_Machine_step 1 Mc = ((f_Machine_perform 1 (114 + 17 * t) (fm_sI Mc 1 5 (nI ((t + 1) % 3)))).bind fun M118 => (f_Machine_countStep 1 M118).bind fun M121 => some (1, M121)) ∧ f_Mo_next 174 Mm = some (nI t, Mm) := by
  obtain ⟨xa, xb, xc, xd, xe, xf, xg, ⟨⟨v, v1, v2, v3⟩, -⟩, xi⟩ := hx
  have look : ∀ t, t < 3 → (Mc.1 (114 + 17 * t) 2 = nI 0 ∧ ¬ Mm.1 193 t = 1) ∨ ∃ f, f < 5 ∧ Mc.1 (114 + 17 * t) 2 = nI (f + 1) ∧ Mm.1 193 t = 1 := by
    intro t ht
    obtain ⟨-, a, a1, a2, a3, a4, a5, -⟩ := xi t ht
    by_cases h0 : a = 0
    · subst h0
      refine Or.inl ⟨a2, ?_⟩
      rcases (a4 rfl).2.2 with h9 | h9 | h9 <;> rw [h9] <;> decide
    · exact Or.inr ⟨a - 1, by omega, by rw [a2]; congr 1; omega, (a5 (by omega)).1⟩
  have w : ∀ a b q, (fm_sI Mc 1 5 a).1 (114 + 17 * b) q = Mc.1 (114 + 17 * b) q := fun a b q => by rw [row_ne (by omega)]
  have w5 : ∀ a, (fm_sI Mc 1 5 a).1 1 5 = a := fun a => by rw [sI_r, if_pos ⟨rfl, rfl⟩]
  rcases look v v1 with ⟨p1, p2⟩ | ⟨f, p1, p2, p3⟩
  · have e1 : h_Machine_step_2 100000 1 0 Mc = h_Machine_step_2 99999 1 (nI 1) (fm_sI Mc 1 5 (nI ((v + 1) % 3))) := cs_no (i := 0) (by decide) v1 v2 p1
    have g1 : h_Mo_next_2 100000 174 0 Mm = h_Mo_next_2 99999 174 (nI 1) Mm := nx_no (i := 0) (by decide) v1 v3 (by rw [show (v + 0) % 3 = v by omega]; exact p2)
    rcases look ((v + 1) % 3) (by omega) with ⟨q1, q2⟩ | ⟨f, q1, q2, q3⟩
    · have e2 : h_Machine_step_2 99999 1 (nI 1) (fm_sI Mc 1 5 (nI ((v + 1) % 3))) = h_Machine_step_2 99998 1 (nI 2) (fm_sI Mc 1 5 (nI (((v + 1) % 3 + 1) % 3))) := by
        have := cs_no (M := fm_sI Mc 1 5 (nI ((v + 1) % 3))) (i := 1) (m := 99998) (v := (v + 1) % 3) (by decide) (by omega) (w5 _) (by rw [w]; exact q1)
        rw [tn_tn] at this
        exact this
      have g2 : h_Mo_next_2 99999 174 (nI 1) Mm = h_Mo_next_2 99998 174 (nI 2) Mm := nx_no (i := 1) (by decide) v1 v3 q2
      rcases look ((v + 2) % 3) (by omega) with ⟨r1, r2⟩ | ⟨f, r1, r2, r3⟩
      · have e3 : h_Machine_step_2 99998 1 (nI 2) (fm_sI Mc 1 5 (nI (((v + 1) % 3 + 1) % 3))) = h_Machine_step_2 99997 1 (nI 3) (fm_sI Mc 1 5 (nI v)) := by
          have := cs_no (M := fm_sI Mc 1 5 (nI (((v + 1) % 3 + 1) % 3))) (i := 2) (m := 99997) (v := (v + 2) % 3) (by decide) (by omega) (by rw [w5, show ((v + 1) % 3 + 1) % 3 = (v + 2) % 3 by omega]) (by rw [w]; exact r1)
          rw [tn_tn, show ((v + 2) % 3 + 1) % 3 = v by omega] at this
          exact this
        have g3 : h_Mo_next_2 99998 174 (nI 2) Mm = h_Mo_next_2 99997 174 (nI 3) Mm := nx_no (i := 2) (by decide) v1 v3 r2
        refine Or.inl ⟨v, v2, ?_, ?_⟩
        · unfold f_Machine_step
          rw [e1, e2, e3, h_Machine_step_2, if_pos (by decide)]
        · unfold f_Mo_next
          rw [g1, g2, g3, h_Mo_next_2, if_pos (by decide)]
      · refine Or.inr ⟨(v + 2) % 3, f, by omega, r1, r2, ?_, ?_⟩
        · unfold f_Machine_step
          have := cs_yes (M := fm_sI Mc 1 5 (nI (((v + 1) % 3 + 1) % 3))) (i := 2) (m := 99997) (v := (v + 2) % 3) (by decide) (by omega) r1 (by rw [w5, show ((v + 1) % 3 + 1) % 3 = (v + 2) % 3 by omega]) (by rw [w]; exact r2)
          rw [tn_tn] at this
          rw [e1, e2]
          exact this
        · unfold f_Mo_next
          rw [g1, g2]
          exact nx_yes (i := 2) (by decide) v1 v3 r3
    · refine Or.inr ⟨(v + 1) % 3, f, by omega, q1, q2, ?_, ?_⟩
      · unfold f_Machine_step
        have := cs_yes (M := fm_sI Mc 1 5 (nI ((v + 1) % 3))) (i := 1) (m := 99998) (v := (v + 1) % 3) (by decide) (by omega) q1 (w5 _) (by rw [w]; exact q2)
        rw [tn_tn] at this
        rw [e1]
        exact this
      · unfold f_Mo_next
        rw [g1]
        exact nx_yes (i := 1) (by decide) v1 v3 q3
  · refine Or.inr ⟨v, f, v1, p1, p2, ?_, ?_⟩
    · exact cs_yes (i := 0) (m := 99999) (by decide) v1 p1 v2 p2
    · have := nx_yes (M := Mm) (i := 0) (m := 99999) (by decide) v1 v3 (by rw [show (v + 0) % 3 = v by omega]; exact p3)
      rw [show (v + 0) % 3 = v by omega] at this
      exact this
/-- the turn and the count of steps change -/
theorem Rx_g {Mc' Mm' : fm_M} (hx : Rx n k s h Ps Mc Mm) (c1 : ∀ q, q ≠ 1 → Mc'.1 q = Mc.1 q) (c2 : Mc'.2 = Mc.2) (m1 : ∀ q, q ≠ 174 → Mm'.1 q = Mm.1 q) (m9 : ∀ z, z ≠ 33 → z ≠ 34 → Mm'.1 174 z = Mm.1 174 z) (m2 : Mm'.2 = Mm.2) (hg : RG Mc' Mm') : Rx n k s h Ps Mc' Mm' := by
  obtain ⟨xa, xb, xc, xd, xe, xf, xg, xh, xi⟩ := hx
  exact ⟨RA_c xa (c1 0 (by decide)) (fun j a b => m9 j (by omega) (by omega)), RB_c xb (c1 2 (by decide)) (c1 3 (by decide)) (m9 1 (by decide) (by decide)) (m1 175 (by decide)) (m1 176 (by decide)), RC_c xc (fun q a b => c1 q (by omega)) (m9 4 (by decide) (by decide)) (m9 7 (by decide) (by decide)) (fun q a b => m1 q (by omega)), RD_c xd xa.1 (fun q a b => c1 q (by omega)) (fun q a b => m1 q (by omega)), RX_c xe (fun m hm => by rw [c1 (24 + 15 * m) (by omega)]) (m1 180 (by decide)), RE_c xf (by rw [c1 0 (by decide)]) (c1 7 (by decide)) (fun q a b => ⟨c1 q (by omega), by rw [c2], by rw [c2]⟩) (m9 23 (by decide) (by decide)) (m9 42 (by decide) (by decide)) (m9 44 (by decide) (by decide)) (fun q a b => ⟨m1 q (by omega), by rw [m2], by rw [m2]⟩), RF_c xg (c1 5 (by decide)) (c1 6 (by decide)) (m9 35 (by decide) (by decide)) (m1 200 (by decide)), hg, RS_c xi xa.1 (by rw [c1 0 (by decide)]) (fun m hm => c1 _ (by omega)) (fun q a b => c1 q (by omega)) (fun q a b => m1 q (by omega))⟩
theorem Rx_fade {Mc' Mm' : fm_M} (hx : Rx n k s h Ps Mc Mm) (he : RE s h Mc' Mm') (hc : fdC Mc Mc') (hm : fdM Mm Mm') : Rx n k s h Ps Mc' Mm' := by
  obtain ⟨xa, xb, xc, xd, xe, xf, xg, xh, xi⟩ := hx
  have c1 : ∀ q, Mc'.1 q = Mc.1 q := fun q => by rw [hc.1]
  have m1 : ∀ q, Mm'.1 q = Mm.1 q := fun q => by rw [hm.1]
  have m9 : ∀ z, Mm'.1 174 z = Mm.1 174 z := fun z => by rw [hm.1]
  exact ⟨RA_c xa (c1 0) (fun j a b => m9 j), RB_c xb (c1 2) (c1 3) (m9 1) (m1 175) (m1 176), RC_c xc (fun q a b => c1 q) (m9 4) (m9 7) (fun q a b => m1 q), RD_c xd xa.1 (fun q a b => c1 q) (fun q a b => m1 q), RX_c xe (fun m hm => by rw [c1 (24 + 15 * m)]) (m1 180), he, RF_c xg (c1 5) (c1 6) (m9 35) (m1 200), RG_c xh (c1 1) (m9 33) (m9 34), RS_c xi xa.1 (by rw [c1 0]) (fun m hm => c1 _) (fun q a b => c1 q) (fun q a b => m1 q)⟩
/-- one step, on both sides -/
theorem one (hx : Rx n k s h Ps Mc Mm) (h0 : Mm.1 174 0 = 0) : (∃ Mc', f_Machine_step 1 Mc = some (0, Mc') ∧ Rx n k s h Ps Mc' Mm ∧ otC Mc Mc' ∧ ∀ n2 x1 x2, x2 < x1 → x1 < 1000 → h_Mo_run_23 (n2 + 1) 174 (nI x1) (nI x2) Mm = some (nI x2, Mm)) ∨ ∃ h' Mc' Mm', f_Machine_step 1 Mc = some (1, Mc') ∧ Rx n k s h' Ps Mc' Mm' ∧ otC Mc Mc' ∧ otM Mm Mm' ∧ ∀ n2 x1 x2, x2 < x1 → x1 < 1000 → h_Mo_run_23 (n2 + 1) 174 (nI x1) (nI x2) Mm = h_Mo_run_23 n2 174 (nI x1) (nI (x2 + 1)) Mm' := by
  rcases pick hx with ⟨v, v1, v2, v3⟩ | ⟨t, f, ht, hf, ha, g1, g2⟩
  · refine Or.inl ⟨_, v2, Rx_g hx (fun q hq => row_ne hq) rfl (fun _ _ => rfl) (fun _ _ _ => rfl) rfl ?_, fun q hq => ⟨row_ne (by omega), rfl, rfl⟩, fun n2 x1 x2 h1 h2 => ?_⟩
    · obtain ⟨⟨u, u1, u2, u3⟩, f, f1, f2, f3⟩ := hx.2.2.2.2.2.2.2.1
      exact ⟨⟨u, u1, by rw [sI_r, if_pos ⟨rfl, rfl⟩, ← v1]; exact u2, u3⟩, f, f1, by rw [sI_r, if_neg (by omega)]; exact f2, f3⟩
    · rw [h_Mo_run_23, if_neg (nI_ge h1 (by omega)), gi_e cl_174, ob_e, h0, if_pos rfl, ck_e cl_174, ob_e, v3, bd_e, if_neg (by decide)]
  · have hx1 : Rx n k s h Ps (fm_sI Mc 1 5 (nI ((t + 1) % 3))) (fm_sI Mm 174 33 (nI ((t + 1) % 3))) := by
      refine Rx_g hx (fun q hq => row_ne hq) rfl (fun q hq => row_ne hq) (fun z hz _ => by rw [sI_r, if_neg (fun h => hz h.2)]) rfl ?_
      obtain ⟨-, f, f1, f2, f3⟩ := hx.2.2.2.2.2.2.2.1
      exact ⟨⟨(t + 1) % 3, by omega, by rw [sI_r, if_pos ⟨rfl, rfl⟩], by rw [sI_r, if_pos ⟨rfl, rfl⟩]⟩, f, f1, by rw [sI_r, if_neg (by omega)]; exact f2, by rw [sI_r, if_neg (by omega)]; exact f3⟩
    obtain ⟨h', Mc2, Mm2, p1, p2, p3, p4, p5⟩ := t_any hx1 ht hf (by rw [row_ne (by omega)]; exact ha)
    obtain ⟨⟨u, u1, u2, u3⟩, f0, f1, f2, f3⟩ := p3.2.2.2.2.2.2.2.1
    have o1 : otC Mc Mc2 := otC_t (fun q hq => ⟨row_ne (by omega), rfl, rfl⟩) p4
    have o2 : otM Mm Mm2 := otM_t ⟨by rw [sI_r, if_neg (by omega)], fun q hq => ⟨row_ne (by omega), rfl, rfl⟩⟩ p5
    have i16 := inc16 f3
    have r16 := rem16 (Mm2.1 174 34 + 1)
    have e33 : (fm_sI Mm2 174 34 (Mm2.1 174 34 + 1)).1 174 34 = Mm2.1 174 34 + 1 := by rw [sI_r, if_pos ⟨rfl, rfl⟩]
    have mpre : ∀ n2 x1 x2, x2 < x1 → x1 < 1000 → h_Mo_run_23 (n2 + 1) 174 (nI x1) (nI x2) Mm = if (Mm2.1 174 34 + 1) - (Mm2.1 174 34 + 1) / 16 * 16 = 0 then (f_Mo_fade 174 (fm_sI Mm2 174 34 (Mm2.1 174 34 + 1))).bind fun M123 => h_Mo_run_23 n2 174 (nI x1) (nI (x2 + 1)) M123 else h_Mo_run_23 n2 174 (nI x1) (nI (x2 + 1)) (fm_sI Mm2 174 34 (Mm2.1 174 34 + 1)) := by
      intro n2 x1 x2 h1 h2
      rw [h_Mo_run_23, if_neg (nI_ge h1 (by omega)), gi_e cl_174, ob_e, h0, if_pos rfl, ck_e cl_174, ob_e, g2, bd_e, if_pos (nI_pos' (by omega)), m3 t (by omega), pi_e cl_174, ob_e, ob_e, p2, ob_e, gi_e cl_174, ob_e, pi_e cl_174, ob_e, gi_e cl_174, ob_e, e33, ob_e, nI_1]
      rfl
    by_cases hf15 : f0 = 15
    · subst hf15
      -- a fade
      have hx2 : Rx n k s h' Ps (fm_sI (fm_sI Mc2 1 6 16) 1 6 0) (fm_sI Mm2 174 34 (Mm2.1 174 34 + 1)) := by
        refine Rx_g p3 (fun q hq => by rw [row_ne hq, row_ne hq]) rfl (fun q hq => row_ne hq) (fun z _ hz => by rw [sI_r, if_neg (fun h => hz h.2)]) rfl ?_
        exact ⟨⟨u, u1, by rw [sI_r, if_neg (by omega), sI_r, if_neg (by omega)]; exact u2, by rw [sI_r, if_neg (by omega)]; exact u3⟩, 0, by decide, by rw [sI_r, if_pos ⟨rfl, rfl⟩]; rfl, by rw [e33, i16]; decide⟩
      obtain ⟨Mc3, Mm3, q1, q2, q3, q4, q5⟩ := fade hx2.2.2.2.2.2.2.1.1 hx2.2.2.2.2.2.1
      refine Or.inr ⟨h', Mc3, Mm3, ?_, Rx_fade hx2 q3 q4 q5, otC_t o1 (fun q hq => ⟨by rw [q4.1, row_ne (by omega), row_ne (by omega)], by rw [q4.2.1 q (by omega)]; rfl, by rw [q4.2.2 q (by omega)]; rfl⟩), otM_t o2 ⟨by rw [q5.1, sI_r, if_neg (by omega)], fun q hq => ⟨by rw [q5.1, row_ne (by omega)], by rw [q5.2.1 q (by omega)]; rfl, by rw [q5.2.2 q (by omega)]; rfl⟩⟩, fun n2 x1 x2 h1 h2 => ?_⟩
      · rw [g1, p1, ob_e]
        unfold f_Machine_countStep
        rw [gi_e cl_1, ob_e, f2, show nI 15 + 1 = (16 : Int32) by decide, pi_e cl_1, ob_e, gi_e cl_1, ob_e, show (fm_sI Mc2 1 6 16).1 1 6 = 16 by rw [sI_r, if_pos ⟨rfl, rfl⟩], if_pos rfl, pi_e cl_1, ob_e, gr_1_3, ob_e, ck_e cl_7, ob_e, q1, ob_e, ob_e]
      · rw [mpre n2 x1 x2 h1 h2, if_pos (r16.mpr (by rw [i16]; decide)), q2, ob_e]
    · have hx2 : Rx n k s h' Ps (fm_sI Mc2 1 6 (nI (f0 + 1))) (fm_sI Mm2 174 34 (Mm2.1 174 34 + 1)) := by
        refine Rx_g p3 (fun q hq => row_ne hq) rfl (fun q hq => row_ne hq) (fun z _ hz => by rw [sI_r, if_neg (fun h => hz h.2)]) rfl ?_
        exact ⟨⟨u, u1, by rw [sI_r, if_neg (by omega)]; exact u2, by rw [sI_r, if_neg (by omega)]; exact u3⟩, f0 + 1, by omega, by rw [sI_r, if_pos ⟨rfl, rfl⟩], by rw [e33, i16]; omega⟩
      refine Or.inr ⟨h', _, _, ?_, hx2, otC_t o1 (fun q hq => ⟨row_ne (by omega), rfl, rfl⟩), otM_t o2 ⟨by rw [sI_r, if_neg (by omega)], fun q hq => ⟨row_ne (by omega), rfl, rfl⟩⟩, fun n2 x1 x2 h1 h2 => ?_⟩
      · rw [g1, p1, ob_e]
        unfold f_Machine_countStep
        rw [gi_e cl_1, ob_e, f2, nI_1, pi_e cl_1, ob_e, gi_e cl_1, ob_e, show (fm_sI Mc2 1 6 (nI (f0 + 1))).1 1 6 = nI (f0 + 1) by rw [sI_r, if_pos ⟨rfl, rfl⟩], if_neg (show ¬ nI (f0 + 1) = 16 from fun h9 => by have := (nI_eq (b := 16) (by omega) (by decide)).mp h9; omega), ob_e]
      · rw [mpre n2 x1 x2 h1 h2, if_neg (fun h9 => by have := r16.mp h9; rw [i16] at this; omega)]
theorem runs {x1 : Nat} (hx1 : x1 < 1000) : ∀ (j i n1 n2 h : Nat) (Mc Mm : fm_M), i + j = x1 → j < n1 → j < n2 → Rx n k s h Ps Mc Mm → Mm.1 174 0 = 0 → ∃ h' i' Mc' Mm', h_AP_run_24 n1 0 (nI x1) (nI i) Mc = some (.inl (nI i'), Mc') ∧ h_Mo_run_23 n2 174 (nI x1) (nI i) Mm = some (nI i', Mm') ∧ Rx n k s h' Ps Mc' Mm' ∧ otC Mc Mc' ∧ otM Mm Mm'
  | 0, i, n1 + 1, n2 + 1, h, Mc, Mm, hi, _, _, hx, h0 => by
    have : i = x1 := by omega
    subst this
    exact ⟨h, i, Mc, Mm, by rw [h_AP_run_24, if_pos (nI_le (Nat.le_refl _) (by omega))], by rw [h_Mo_run_23, if_pos (nI_le (Nat.le_refl _) (by omega))], hx, otC_r, otM_r⟩
  | j + 1, i, n1 + 1, n2 + 1, h, Mc, Mm, hi, g1, g2, hx, h0 => by
    rcases one hx h0 with ⟨Mc', a1, a2, a3, a4⟩ | ⟨h', Mc', Mm', a1, a2, a3, a4, a5⟩
    · refine ⟨h, i, Mc', Mm, ?_, a4 n2 x1 i (by omega) hx1, a2, a3, otM_r⟩
      rw [h_AP_run_24, if_neg (nI_ge (by omega) (by omega)), gr_0_0, ob_e, ck_e cl_1, ob_e, a1, bd_e, if_pos rfl]
    · obtain ⟨h2, i', Mc2, Mm2, b1, b2, b3, b4, b5⟩ := runs hx1 j (i + 1) n1 n2 h' Mc' Mm' (by omega) (by omega) (by omega) a2 (by rw [a4.1]; exact h0)
      refine ⟨h2, i', Mc2, Mm2, ?_, by rw [a5 n2 x1 i (by omega) hx1]; exact b2, b3, otC_t a3 b4, otM_t a4 b5⟩
      rw [h_AP_run_24, if_neg (nI_ge (by omega) (by omega)), gr_0_0, ob_e, ck_e cl_1, ob_e, a1, bd_e, if_neg (by decide), nI_1]
      exact b1
end STEP
theorem p_run (a1 : Int32) {M : fm_M} (hR : Rel M M) : ∃ M', l_case12 a1 M = some M' ∧ Rel M' M' := by
  obtain ⟨n, k, s, h, Ps, hx⟩ := hR
  by_cases hv : 1 ≤ a1.toInt ∧ a1.toInt ≤ 200
  · obtain ⟨x, -, rfl, hxx⟩ := nI_get (x := a1) (by omega)
    have c1 : ¬ nI x < 1 := nI_nlt (b := 1) (by omega) (by omega)
    have c2 : nI x ≤ 200 := nI_le (b := 200) (by omega) (by decide)
    have hx0 : ∀ N : fm_M, (∀ q, 174 ≤ q → q < 210 → N.1 q = M.1 q ∧ N.2.1 q = M.2.1 q ∧ N.2.2.1 q = M.2.2.1 q) → Rx n k s h Ps M (fm_sI N 174 0 0) := fun N hN => Rx_c hx (eqC_r M) ⟨fun j hj => by rw [sI_r, if_neg (fun h => hj h.2), (hN 174 (by omega) (by omega)).1], fun q q1 q2 _ => ⟨by rw [row_ne (by omega), (hN q (by omega) q2).1], (hN q (by omega) q2).2.1, (hN q (by omega) q2).2.2⟩⟩
    obtain ⟨h1, i1, M1, -, p1, -, -, p4, -⟩ := runs (x1 := x) (by omega) x 0 100000 100000 h M _ (by omega) (by omega) (by omega) (hx0 M (fun q _ _ => ⟨rfl, rfl, rfl⟩)) (by rw [sI_r, if_pos ⟨rfl, rfl⟩])
    obtain ⟨h2, i2, M1', M2, q1, q2, q3, q4, q5⟩ := runs (x1 := x) (by omega) x 0 100000 100000 h M _ (by omega) (by omega) (by omega) (hx0 (fm_sJ M1 210 0 (nI i1).toInt64) (fun q g1 g2 => ⟨(p4 q g1).1, by
      show (fm_sJ M1 210 0 (nI i1).toInt64).2.1 q = _
      rw [← (p4 q g1).2.1]
      funext z
      rw [sJ_r, if_neg (by omega)], (p4 q g1).2.2⟩)) (by rw [sI_r, if_pos ⟨rfl, rfl⟩])
    have e1 := p1.symm.trans q1
    have e2 : (Sum.inl (nI i1) : Int32 ⊕ String) = Sum.inl (nI i2) ∧ M1 = M1' := by
      have := Option.some.inj e1
      exact ⟨congrArg Prod.fst this, congrArg Prod.snd this⟩
    have e3 : nI i1 = nI i2 := Sum.inl.inj e2.1
    have e4 := e2.2
    subst e4
    have hC : f_Law_run 0 (nI x) 210 M = some (0, fm_sJ M1 210 0 (nI i1).toInt64) := by
      unfold f_Law_run f_AP_run
      rw [ck_e cl_0, ob_e, if_neg c1, if_pos c2, show h_AP_run_24 100000 0 (nI x) 0 M = _ from p1, lt_l, out_w, ob_e]
    have hD : f_Mo_run 174 (nI x) (fm_sJ M1 210 0 (nI i1).toInt64) = some (nI i2, M2) := by
      unfold f_Mo_run j_Mo_run_18
      rw [if_neg c1, if_pos c2, pi_e cl_174, ob_e]
      exact q2
    refine ⟨M2, ?_, n, k, s, h2, Ps, Rx_c q3 (fun q hq => ?_) (eqM_r _)⟩
    · unfold l_case12
      rw [hC, bd_e, ck_e cl_174, ob_e, hD, bd_e]
      exact tail_i (by rw [q5.1, sI_r, if_pos ⟨rfl, rfl⟩]) (fun _ => by
        rw [(q5.2 210 (by omega)).2.1, ← e3]
        show (fm_sJ M1 210 0 (nI i1).toInt64).2.1 210 0 = _
        rw [sJ_r, if_pos ⟨rfl, rfl⟩])
    · refine ⟨by rw [(q5.2 q (by omega)).1, row_ne (by omega)]; rfl, ?_, by rw [(q5.2 q (by omega)).2.2]; rfl⟩
      rw [(q5.2 q (by omega)).2.1]
      funext z
      show (fm_sJ M1 210 0 (nI i1).toInt64).2.1 q z = _
      rw [sJ_r, if_neg (by omega)]
  · have hC : f_Law_run 0 a1 210 M = some (1, M) := by
      unfold f_Law_run f_AP_run j_AP_run_12
      rw [ck_e cl_0, ob_e]
      by_cases c1 : a1 < 1
      · rw [if_pos c1, lt_r, if_pos rfl]
      · have c2 : ¬ a1 ≤ 200 := by
          rw [Int32.lt_iff_toInt_lt, show (1 : Int32).toInt = 1 from by decide] at c1
          rw [Int32.le_iff_toInt_le, show (200 : Int32).toInt = 200 from by decide]
          omega
        rw [if_neg c1, if_neg c2, lt_r, if_pos rfl]
    have hj : h_Mo_run_23 100000 174 a1 0 (fm_sI M 174 0 1) = some (0, fm_sI M 174 0 1) := by
      rw [h_Mo_run_23]
      by_cases c0 : a1 ≤ 0
      · rw [if_pos c0]
      · rw [if_neg c0, gi_e cl_174, ob_e, show (fm_sI M 174 0 1).1 174 0 = 1 by rw [sI_r, if_pos ⟨rfl, rfl⟩], if_neg (by decide)]
    have hD : f_Mo_run 174 a1 M = some (0, fm_sI M 174 0 1) := by
      unfold f_Mo_run j_Mo_run_13 j_Mo_run_18
      rw [pi_e cl_174, ob_e, hj]
      by_cases c1 : a1 < 1
      · rw [if_pos c1]
      · have c2 : ¬ a1 ≤ 200 := by
          rw [Int32.lt_iff_toInt_lt, show (1 : Int32).toInt = 1 from by decide] at c1
          rw [Int32.le_iff_toInt_le, show (200 : Int32).toInt = 200 from by decide]
          omega
        rw [if_neg c1, if_neg c2]
    refine ⟨fm_sI M 174 0 1, ?_, n, k, s, h, Ps, Rx_c hx (eqC_I (by decide)) (eqM_t _ _)⟩
    unfold l_case12
    rw [hC, bd_e, ck_e cl_174, ob_e, hD, bd_e]
    exact tail_i (by rw [sI_r, if_pos ⟨rfl, rfl⟩]) (fun h => absurd h (by decide))
