/-! NEW and ARRAY -/
theorem cmp_neg {x : Nat} (h : x < 1000000000000) : ¬ lg_cmp (lN x) 0 < 0 := by
  by_cases h0 : x = 0
  · subst h0; decide
  · unfold lg_cmp
    rw [if_pos (show lN x > 0 by rw [gt_iff_lt, Int64.lt_iff_toInt_lt, lt_n (by omega)]; show (0 : Int) < _; omega)]
    decide
theorem cmp_big {x : Nat} (h : x < 1000000000000) (hx : 100000 < x) : lg_cmp (lN x) 100000 = 1 := by
  unfold lg_cmp
  rw [if_pos (show lN x > 100000 by rw [gt_iff_lt, Int64.lt_iff_toInt_lt, lt_n (by omega)]; show (100000 : Int) < _; omega)]
theorem cmp_ok {x : Nat} (hx : x ≤ 100000) : lg_cmp (lN x) 100000 ≤ 0 := by
  unfold lg_cmp
  rw [if_neg (show ¬ lN x > 100000 by rw [gt_iff_lt, Int64.lt_iff_toInt_lt, lt_n (by omega)]; show ¬ (100000 : Int) < _; omega)]
  split <;> decide
section ALLOC
variable {n k s h he hh t f a u p d r wl o : Nat} {M M1 M2 Mc Mm Mc' Mm' C C1 N N1 : fm_M} {L S : Nat → Int32} {Ps : Nat → Nat → Nat → Prop} {b : Int64}
/-- can it be made? -/
def good (b : Int64) (h : Nat) : Prop := ∃ x, x ≤ 100000 ∧ b = lN x ∧ h < 400
theorem hp_bad (hh : C.1 5 1 = nI h) (h4 : h ≤ 400) (hb : b = -1 ∨ ∃ x, x < 1000000000000 ∧ b = lN x) (hg : ¬ good b h) : f_Heap_make 5 b C = some (-1, C) := by
  unfold f_Heap_make
  rw [gi_e cl_5, ob_e, hh]
  by_cases h400 : h = 400
  · subst h400
    rw [if_pos (by decide)]
  · rw [if_neg (show ¬ 400 ≤ nI h from nI_ge (b := 400) (by omega) (by decide))]
    rcases hb with rfl | ⟨x, x1, rfl⟩
    · rw [if_pos (by decide)]
    · have hx : 100000 < x := by
        rcases Nat.lt_or_ge 100000 x with h9 | h9
        · exact h9
        · exact absurd ⟨x, h9, rfl, by omega⟩ hg
      rw [if_neg (cmp_neg x1), if_neg (by rw [cmp_big x1 hx]; decide)]
theorem hp_ok {x : Nat} (hh : C.1 5 1 = nI h) (h4 : h < 400) (hx : x ≤ 100000) : f_Heap_make 5 (lN x) C = some (nI (h + 1), hpC C h x) := by
  have e1 : (fm_sI C 6 h (nI x)).1 5 1 = nI h := by rw [sI_r, if_neg (by omega)]; exact hh
  have e2 : (fm_sI (fm_sI C 6 h (nI x)) 5 1 (nI (h + 1))).1 5 1 = nI (h + 1) := by rw [sI_r, if_pos ⟨rfl, rfl⟩]
  unfold f_Heap_make hpC
  rw [gi_e cl_5, ob_e, hh, if_neg (show ¬ 400 ≤ nI h from nI_ge (b := 400) h4 (by decide)), if_neg (cmp_neg (by omega)), if_pos (cmp_ok hx), gr_5_0, ob_e, ob_e, lN_i, si_n an_6 h4 (by decide), ob_e, gi_e cl_5, ob_e, e1, nI_1, pi_e cl_5, ob_e, gi_e cl_5, ob_e, e2]
theorem al_bad (hh : N.1 174 35 = nI h) (h4 : h ≤ 400) (hb : b = -1 ∨ ∃ x, x < 1000000000000 ∧ b = lN x) (hg : ¬ good b h) {v w : Int32} : f_Mo_allocate 174 v w b N = (f_Mo_raise 174 v (-1) N).bind fun M => some M := by
  have hj : j_Mo_allocate_24 174 v N = (f_Mo_raise 174 v (-1) N).bind fun M => some M := by
    unfold j_Mo_allocate_24
    rw [ck_e cl_174, ob_e]
  unfold f_Mo_allocate
  rw [hj]
  rcases hb with rfl | ⟨x, x1, rfl⟩
  · rw [if_pos (by decide)]
  · rw [if_neg (cmp_neg x1)]
    rcases Nat.lt_or_ge 100000 x with h9 | h9
    · rw [if_pos (by rw [cmp_big x1 h9]; decide)]
    · have h400 : h = 400 := by
        rcases Nat.lt_or_ge h 400 with h8 | h8
        · exact absurd ⟨x, h9, rfl, h8⟩ hg
        · omega
      subst h400
      rw [if_neg (by have := cmp_ok h9; rw [Int32.le_iff_toInt_le] at this; rw [Int32.lt_iff_toInt_lt]; omega), gi_e cl_174, ob_e, hh, if_pos (by decide)]
theorem t_make (hx : Rx n k s h Ps Mc Mm) (ht : t < 3) (hf : f < 5) (ha : Mc.1 (114 + 17 * t) 2 = nI (f + 1)) (hu : u < n) (hw : Wm k s u Mc Mm (Ps u) wl r) (hO : Mc.1 (31 + 15 * u + 4) p = nI o) (ho : o = 11 ∨ o = 12) (hp : p < wl) (hPd : ∃ d', Ps u p d') (hP : Ps u (nx (Mc.1 (31 + 15 * u + 4)) wl p) (d + 1)) (hc : kF t f Mc C1) (hm : kG t f Mm N1) (c : cF C1 t f u p d L S) (m : mF N1 t f u (p + 1) d L S) (hb : b = -1 ∨ ∃ x, x < 1000000000000 ∧ b = lN x) : ∃ h' Mc' Mm', f_Machine_make 1 (114 + 17 * t) b C1 = some Mc' ∧ f_Mo_allocate 174 (nI t) (nI (5 * t + f)) b N1 = some Mm' ∧ Rx n k s h' Ps Mc' Mm' ∧ otC Mc Mc' ∧ otM Mm Mm' := by
  obtain ⟨xa, xb, xc, xd, xe, xf, xg, xh, xi⟩ := id hx
  have hu6 : u < 6 := by have := xa.1; omega
  have hh1 : C1.1 5 1 = nI h := by rw [hc.2 5 (by omega)]; exact xg.2.1
  have hh2 : N1.1 174 35 = nI h := by rw [hm.2.1 174 (by omega)]; exact xg.2.2.1
  by_cases hg : good b h
  · obtain ⟨x, x1, rfl, x3⟩ := hg
    have hd5 : d < 5 := by have := (flow5 (o := o) hw hP).1; omega
    obtain ⟨w1, w2, w3, w4⟩ := id hw
    obtain ⟨s1, s2, s3, s4, s5, -⟩ := SR_split (xi t ht) ha hf
    have z1 : Rz n k s h (h + 1) Ps (hpC C1 h x) (hpM N1 h x) := Rz_h (Rz_t ht (Mc := Mc) (Mm := Mm) ⟨xa, xb, xc, xd, xe, xf, xg, xh⟩ (kC_F hf hc) (kM_G hf hm)) x3
    have c1 : ∀ q, q ≠ 5 → q ≠ 6 → (hpC C1 h x).1 q = C1.1 q := fun q a b => by unfold hpC; rw [row_ne a, row_ne b]
    have m1 : ∀ q, q ≠ 174 → q ≠ 200 → (hpM N1 h x).1 q = N1.1 q := fun q a b => by unfold hpM; rw [row_ne b, row_ne a]
    obtain ⟨C3, p1, p2, p3⟩ := c_push (v := nI (h + 1)) ht hf (cF_o (M1 := hpC C1 h x) c ht hf (fun q a b => c1 q (by omega) (by omega))) hd5
    obtain ⟨C4, q1, q2, q3⟩ := c_at (p' := p + 1) ht hf p3
    obtain ⟨N3, r1, r2, r3⟩ := m_push (v := nI (h + 1)) ht hf (mF_o (M1 := hpM N1 h x) m (fun q a b => m1 q (by omega) (by omega))) hd5
    have z2 : Rz n k s h (h + 1) Ps C4 N3 := Rz_t ht z1 (kC_F hf (kF_t p2 q2)) (kM_G hf r2)
    have kc : kFw t f Mc C4 := kFw_t (kFw_t (kFw_k hc) (fun q a b => c1 q (by omega) (by omega))) (kFw_k (kF_t p2 q2))
    have km : kGw t f Mm N3 := kGw_t (kGw_t (kGw_k hm) (kGw_o (fun q a b => m1 q (by omega) (by omega)))) (kGw_k r2)
    have oc : otC Mc C4 := otC_t (otC_k ht (kC_F hf hc)) (otC_t (fun q hq => ⟨c1 q (by omega) (by omega), rfl, rfl⟩) (otC_k ht (kC_F hf (kF_t p2 q2))))
    have om : otM Mm N3 := otM_t (otM_k (kM_G hf hm)) (otM_t ⟨by unfold hpM; rw [sI_r, if_neg (by omega), sI_r, if_neg (by omega)], fun q hq => ⟨m1 q (by omega) (by omega), rfl, rfl⟩⟩ (otM_k (kM_G hf r2)))
    have hO4 : ∀ q, 25 ≤ q → q ≤ 112 → C4.1 q = Mc.1 q := fun q a b => kc q (by omega) (by omega)
    have hl4 : C4.1 (31 + 15 * u) 5 = nI wl := by rw [hO4 _ (by omega) (by omega)]; exact w3.1
    have hact : (hpC C1 h x).1 (114 + 17 * t) 2 = nI (f + 1) := by rw [c1 _ (by omega) (by omega), hc.2 _ (by omega)]; exact ha
    have hcu : (hpC C1 h x).1 (116 + 17 * t + 3 * f) 2 = nI u := by rw [c1 _ (by omega) (by omega)]; exact c.1
    -- the class, up to the look at REPORT
    have pre : f_Machine_make 1 (114 + 17 * t) (lN x) C1 = bd (f_Code_operationAt (31 + 15 * u) (nI (p + 1)) C4) fun x128 M126 => if x128 = 16 then (gr 1 5 3).bind fun q130 => (gi (116 + 17 * t + 3 * f) 2 3 M126).bind fun x132 => (ck (31 + 15 * u) 1).bind fun _ => bd (f_Code_argumentAt (31 + 15 * u) x132 M126) fun x137 M135 => (gi (114 + 17 * t) 7 1 M135).bind fun x138 => (ck (114 + 17 * t) 7).bind fun _ => bd (f_Strand_stackNumber (114 + 17 * t) M135) fun x143 M141 => (ck q130 4).bind fun _ => (f_Ledger_report q130 x137 x138 (lN x).toInt32 x143 M141).bind fun M145 => (gi (116 + 17 * t + 3 * f) 2 3 M145).bind fun x147 => (pi (116 + 17 * t + 3 * f) 2 3 (x147 + 1) M145).bind fun M149 => some M149 else some M126 := by
      unfold f_Machine_make
      rw [gr_1_2, ob_e, ck_e cl_5, ob_e, hp_ok hh1 x3 x1, bd_e, if_neg (show ¬ nI (h + 1) = -1 from fun h9 => by have := congrArg Int32.toInt h9; rw [nt (by omega)] at this; exact absurd this (by show ¬ ((h + 1 : Nat) : Int) = -1; omega)), ck_e (cl_t t ht), ob_e, e_top ht hf hact, bd_e, ck_e cl_1, ob_e, e_codeOf ht hf hu6 hcu, bd_e, ck_e (cl_f t ht f hf), ob_e, p1, ob_e, gi_e (cl_f t ht f hf), ob_e, p3.2.1, nI_1, q1, ob_e, gi_e (cl_f t ht f hf), ob_e, q3.2.1, ck_e (cd_w u hu6).1, ob_e]
    have mpre : f_Mo_allocate 174 (nI t) (nI (5 * t + f)) (lN x) N1 = (if nI wl ≤ nI (p + 1) then some N3 else (ai 187 (nI (28 * u + (p + 1))) N3).bind fun x147 => if x147 = 16 then (si 196 (nI (5 * t + f)) (nI (p + 2)) N3).bind fun M154 => (ai 188 (nI (28 * u + (p + 1))) M154).bind fun x158 => (f_Mo_report 174 (nI t) x158 (nI x) M154).bind fun M161 => some M161 else some N3) := by
      have e1 : (fm_sI N1 174 35 (nI (h + 1))).1 174 35 = nI (h + 1) := by rw [sI_r, if_pos ⟨rfl, rfl⟩]
      have e2 : (fm_sI (fm_sI N1 174 35 (nI (h + 1))) 200 (h + 1) (nI x)).1 174 35 = nI (h + 1) := by rw [sI_r, if_neg (by omega)]; exact e1
      have e3 : N3.1 186 u = nI wl := by rw [km.1 186 (by decide) (by decide)]; exact w3.2.1
      have hK : ((28 : Int32) * nI u) + nI (p + 1) = nI (28 * u + (p + 1)) := by rw [show (28 : Int32) * nI u = nI (28 * u) from nI_mul 28 u, nI_add]
      have r1' : f_Mo_push 174 (nI (5 * t + f)) (nI (h + 1)) (fm_sI (fm_sI N1 174 35 (nI (h + 1))) 200 (h + 1) (nI x)) = some N3 := r1
      unfold f_Mo_allocate
      rw [if_neg (cmp_neg (by omega)), if_neg (by have := cmp_ok x1; rw [Int32.le_iff_toInt_le] at this; rw [Int32.lt_iff_toInt_lt]; omega), gi_e cl_174, ob_e, hh2, if_neg (show ¬ nI h = 400 from fun h9 => by have := (nI_eq (b := 400) (by omega) (by decide)).mp h9; omega), ob_e, nI_1, pi_e cl_174, ob_e, gr_174_36, ob_e, gi_e cl_174, ob_e, e1, lN_i, si_n an_200 (by omega) (by decide), ob_e, gi_e cl_174, ob_e, e2, ck_e cl_174, ob_e, r1', ob_e, gr_174_28, ob_e, ai_n an_195 (by omega) (by decide), ob_e, r3.1, gr_174_29, ob_e, ai_n an_196 (by omega) (by decide), ob_e, r3.2.1, ob_e, ai_n an_196 (by omega) (by decide), ob_e, r3.2.1, gr_174_18, ob_e, ob_e, ai_n an_195 (by omega) (by decide), ob_e, r3.1, ai_n an_186 hu6 (by decide), ob_e, e3, gr_174_19, ob_e, hK, ob_e, ai_n an_196 (by omega) (by decide), ob_e, r3.2.1, nI_1, gr_174_20]
      rfl
    by_cases hrep : p + 1 < wl ∧ Mc.1 (31 + 15 * u + 4) (p + 1) = 16
    · obtain ⟨hp1, h16⟩ := hrep
      have hnx : nx (Mc.1 (31 + 15 * u + 4)) wl p = p + 2 := by
        unfold nx
        rw [hO, oN_n (by omega), if_pos ⟨ho, hp1, h16⟩]
      rw [hnx] at hP
      obtain ⟨op, o1, o2, -, -, -, -, -, o8⟩ := w4.2.1 (p + 1) hp1
      have hop : op = 16 := (nI_eq (b := 16) (by omega) (by decide)).mp (o2.symm.trans h16)
      obtain ⟨j, j1, j2⟩ := o8 hop
      obtain ⟨N4, i1, i2, i3⟩ := m_at (p' := p + 2) ht hf r3
      have z3 : Rz n k s h (h + 1) Ps C4 N4 := Rz_t ht z2 kC_r (kM_G hf i2)
      have kN4 : kGw t f Mm N4 := kGw_t km (kGw_k i2)
      obtain ⟨σ, g1, g2⟩ := stk (Mc := C4) (Mm := N4) (t := t) (a := f + 1) ht (by omega) (by rw [kc _ (by omega) (by omega)]; exact ha) (by rw [kN4.1 192 (by decide) (by decide)]; exact s2) (fun f' hf' => by
        by_cases hff : f' = f
        · subst hff
          exact ⟨u, hu6, q3.1, i3.1⟩
        · obtain ⟨p', d', u', k1, k2, -, -⟩ := s5 f' (by omega)
          have := xa.1
          exact ⟨u', by omega, by rw [kc _ (by omega) (by omega)]; exact k1.1, by rw [kN4.1 195 (by decide) (by decide)]; exact k1.2.2.2.1⟩)
      obtain ⟨za, zb, zc, zd, ze, zf, zg, zh⟩ := z3
      obtain ⟨C5, N5, l1, l2, l3, l4, l5, l6, l7, l8, l9, l10⟩ := RE_report (σ := σ) (j := j) (x := x) zf x3 ht j1 x1 (by rw [kc 0 (by omega) (by omega)]; exact s4) g2
      have c5 : cF C5 t f u (p + 1) (d + 1) L (up S d (nI (h + 1))) := cF_o q3 ht hf (fun q a b => l4 q (by omega))
      obtain ⟨C6, t1, t2, t3⟩ := c_on ht hf c5
      have z5 : Rz n k s (h + 1) (h + 1) Ps C5 N5 := ⟨RA_c za (l4 0 (by omega)) (fun j a b => l8 j (by omega)), RB_c zb (l4 2 (by omega)) (l4 3 (by omega)) (l8 1 (by decide)) (l7 175 (by omega)) (l7 176 (by omega)), RC_c zc (fun q a b => l4 q (by omega)) (l8 4 (by decide)) (l8 7 (by decide)) (fun q a b => l7 q (by omega)), RD_c zd za.1 (fun q a b => l4 q (by omega)) (fun q a b => l7 q (by omega)), RX_c ze (fun m hm => by rw [l4 (24 + 15 * m) (by omega)]) (l7 180 (by omega)), l3, RF_c zg (l4 5 (by omega)) (l4 6 (by omega)) (l8 35 (by decide)) (l7 200 (by omega)), RG_c zh (l4 1 (by omega)) (l8 33 (by decide)) (l8 34 (by decide))⟩
      obtain ⟨ya, yb, yc, yd, ye, yf, yg, yh⟩ := Rz_t ht z5 (kC_F hf t2) kM_r
      have kc6 : kFw t f Mc C6 := kFw_t kc (kFw_t (fun q a b => l4 q (by omega)) (kFw_k t2))
      have km5 : kGw t f Mm N5 := kGw_t kN4 (kGw_o (fun q a b => l7 q (by omega)))
      refine ⟨h + 1, C6, N5, ?_, ?_, ⟨ya, yb, yc, yd, ye, yf, yg, yh, RS_w ht hf xa.1 xi ha kc6 km5 t3 (mF_o i3 (fun q a b => l7 q (by omega))) hu hP⟩, otC_t oc (otC_t (fun q hq => ⟨l4 q (by omega), l5 q (by omega), by rw [l6]⟩) (otC_k ht (kC_F hf t2))), otM_t om (otM_t (otM_k (kM_G hf i2)) ⟨l8 0 (by decide), fun q hq => ⟨l7 q (by omega), l9 q (by omega), by rw [l10]⟩⟩)⟩
      · rw [pre, e_op1 (cd_w u hu6) hl4 (by decide) w1 hp1, bd_e, hO4 (31 + 15 * u + 4) (by omega) (by omega), if_pos h16, gr_1_3, ob_e, gi_e (cl_f t ht f hf), ob_e, q3.2.1, ck_e (cd_w u hu6).1, ob_e, e_ar1 (cd_w u hu6) hl4 (by decide) w1 hp1, bd_e, hO4 (31 + 15 * u + 5) (by omega) (by omega), j2, gi_e (cl_t t ht), ob_e, show C4.1 (114 + 17 * t) 1 = nI t by rw [kc _ (by omega) (by omega)]; exact s1, ck_e (cl_t t ht), ob_e, g1, bd_e, ck_e cl_7, ob_e, lN_i, l1, ob_e]
        exact t1
      · have e1 : N3.1 187 (28 * u + (p + 1)) = 16 := by rw [km.1 187 (by decide) (by decide), ← (w3.2.2.2.2.1 (p + 1) hp1).1]; exact h16
        have e2 : N4.1 188 (28 * u + (p + 1)) = nI j := by rw [kN4.1 188 (by decide) (by decide), ← (w3.2.2.2.2.1 (p + 1) hp1).2]; exact j2
        rw [mpre, if_neg (nI_ge hp1 (by omega)), ai_n an_187 (by omega) (by decide), ob_e, e1, if_pos rfl, i1, ob_e, ai_n an_188 (by omega) (by decide), ob_e, e2, l2, ob_e]
    · have hnx : nx (Mc.1 (31 + 15 * u + 4)) wl p = p + 1 := by
        unfold nx
        rw [if_neg (fun h9 => hrep ⟨h9.2.1, h9.2.2⟩)]
      rw [hnx] at hP
      obtain ⟨ya, yb, yc, yd, ye, yf, yg, yh⟩ := z2
      refine ⟨h + 1, C4, N3, ?_, ?_, ⟨ya, yb, yc, yd, ye, RE_up yf, yg, yh, RS_w ht hf xa.1 xi ha kc km q3 r3 hu hP⟩, oc, om⟩
      · rw [pre]
        by_cases hp1 : p + 1 < wl
        · rw [e_op1 (cd_w u hu6) hl4 (by decide) w1 hp1, bd_e, hO4 (31 + 15 * u + 4) (by omega) (by omega), if_neg (fun h9 => hrep ⟨hp1, h9⟩)]
        · rw [e_op0 (cd_w u hu6) hl4 (by omega) (by rw [nt (by omega)]; omega), bd_e, if_neg (by decide)]
      · rw [mpre]
        by_cases hp1 : p + 1 < wl
        · have e1 : ¬ N3.1 187 (28 * u + (p + 1)) = 16 := by rw [km.1 187 (by decide) (by decide), ← (w3.2.2.2.2.1 (p + 1) hp1).1]; exact fun h9 => hrep ⟨hp1, h9⟩
          rw [if_neg (nI_ge hp1 (by omega)), ai_n an_187 (by omega) (by decide), ob_e, if_neg e1]
        · rw [if_pos (nI_le (by omega) (by omega))]
  · obtain ⟨Mc', Mm', g1, g2, g3, g4, g5⟩ := t_raise (v := -1) hx ht hf ha hu hPd hc hm c m
    refine ⟨h, Mc', Mm', ?_, ?_, g3, g4, g5⟩
    · unfold f_Machine_make
      rw [gr_1_2, ob_e, ck_e cl_5, ob_e, hp_bad hh1 xg.1 hb hg, bd_e, if_pos rfl, ck_e cl_1, ob_e, g1, ob_e]
    · rw [al_bad hh2 xg.1 hb hg, g2, ob_e]
/-- the widths' masks -/
theorem and8 {W : Nat} (h : W < 18446744073709551616) : W &&& 18446744073709551608 = W / 8 * 8 := by
  apply Nat.eq_of_testBit_eq
  intro i
  rw [show (18446744073709551608 : Nat) = (2 ^ 61 - 1) <<< 3 from by decide, show W / 8 * 8 = (W >>> 3) <<< 3 by rw [Nat.shiftRight_eq_div_pow, Nat.shiftLeft_eq], Nat.testBit_and, Nat.testBit_shiftLeft, Nat.testBit_shiftLeft, Nat.testBit_shiftRight, Nat.testBit_two_pow_sub_one]
  by_cases h3 : 3 ≤ i
  · rw [show 3 + (i - 3) = i by omega]
    by_cases h64 : i - 3 < 61
    · simp [h3, h64]
    · have : W.testBit i = false := Nat.testBit_lt_two_pow (Nat.lt_of_lt_of_le h (show 18446744073709551616 ≤ 2 ^ i from Nat.le_trans (show 18446744073709551616 ≤ 2 ^ 64 by decide) (Nat.pow_le_pow_right (by decide) (by omega))))
      simp [this]
  · simp [h3]
theorem and8L {W : Nat} (h : W < 1000000000000) : lN W &&& (-(8 : Int32)).toInt64 = lN (W / 8 * 8) := by
  apply Int64.toBitVec_inj.mp
  rw [Int64.toBitVec_and]
  apply BitVec.eq_of_toNat_eq
  rw [BitVec.toNat_and, show (-(8 : Int32)).toInt64.toBitVec.toNat = 18446744073709551608 by decide]
  show (BitVec.ofNat 64 W).toNat &&& _ = (BitVec.ofNat 64 (W / 8 * 8)).toNat
  rw [BitVec.toNat_ofNat, BitVec.toNat_ofNat, Nat.mod_eq_of_lt (show W < 2 ^ 64 by omega), Nat.mod_eq_of_lt (show W / 8 * 8 < 2 ^ 64 by omega), and8 (by omega)]
theorem arr {x y : Int32} (hy : y = 1 ∨ y = 2 ∨ y = 4 ∨ y = 8) : ∃ b, (b = -1 ∨ ∃ z, z < 1000000000000 ∧ b = lN z) ∧ (∀ M, f_Machine_arraySize x y M = some (b, M)) ∧ ∀ M, f_Mo_arraySize x y M = some (b, M) := by
  by_cases hx : 0 ≤ x
  · obtain ⟨k, k1, rfl, k3⟩ := nI_get (x := x) (by have := Int32.le_iff_toInt_le.mp hx; exact this)
    obtain ⟨w, w1, rfl⟩ : ∃ w, w ≤ 8 ∧ y = nI w := by
      rcases hy with h | h | h | h
      · exact ⟨1, by decide, h⟩
      · exact ⟨2, by decide, h⟩
      · exact ⟨4, by decide, h⟩
      · exact ⟨8, by decide, h⟩
    have hkw : k * w ≤ 2147483648 * 8 := Nat.mul_le_mul (by omega) w1
    refine ⟨lN ((16 + k * w + 7) / 8 * 8), Or.inr ⟨_, by omega, rfl⟩, fun M => ?_, fun M => ?_⟩
    · unfold f_Machine_arraySize f_AP_nextMultiple
      rw [if_pos hx, bd_e, nI_l k1, nI_l (by omega), lN_mul, show (16 : Int64) = lN 16 from rfl, lN_add, show (8 : Int32).toInt64 = lN 8 from rfl, lN_add, show (1 : Int64) = lN 1 from rfl, lN_sub (by omega), show 16 + k * w + 8 - 1 = 16 + k * w + 7 by omega, and8L (by omega)]
    · unfold f_Mo_arraySize
      rw [if_pos hx, nI_l k1, nI_l (by omega), show (1 : Int64) = lN 1 from rfl, lN_mul, Nat.one_mul, lN_mul, show (16 : Int64) = lN 16 from rfl, lN_add, show (8 : Int64) = lN 8 from rfl, pk_lRem (by omega) (by decide) (by decide), lN_add, lN_sub (by omega)]
      by_cases hm : (16 + k * w) % 8 = 0
      · rw [hm, if_pos (by decide), show (16 + k * w + 7) / 8 * 8 = 16 + k * w by omega]
      · rw [if_neg (by
          unfold lg_cmp
          rw [if_pos (show lN ((16 + k * w) % 8) > 0 by rw [gt_iff_lt, Int64.lt_iff_toInt_lt, lt_n (by omega)]; show (0 : Int) < _; omega)]
          decide), show 16 + k * w + 8 - (16 + k * w) % 8 = (16 + k * w + 7) / 8 * 8 by omega]
  · refine ⟨-1, Or.inl rfl, fun M => ?_, fun M => ?_⟩
    · unfold f_Machine_arraySize
      rw [if_neg hx]
    · unfold f_Mo_arraySize
      rw [if_neg hx]
theorem t_new {x : Nat} (hx : Rx n k s h Ps Mc Mm) (ht : t < 3) (hf : f < 5) (ha : Mc.1 (114 + 17 * t) 2 = nI (f + 1)) (hu : u < n) (hw : Wm k s u Mc Mm (Ps u) wl r) (hO : Mc.1 (31 + 15 * u + 4) p = nI 11) (hp : p < wl) (hPd : Ps u p d) (hP : Ps u (nx (Mc.1 (31 + 15 * u + 4)) wl p) (d + 1)) (hxk : x < k) (c : cF Mc t f u p d L S) (hk : kG t f Mm M1) (m : mF M1 t f u (p + 1) d L S) : Turn n k s h Ps t f (nI 11) (nI x) Mc M1 Mc Mm := by
  obtain ⟨b1, b2, b3, b4⟩ := hx.2.1
  obtain ⟨v, v1, v2, v3, v4⟩ := b4 x hxk
  obtain ⟨h', Mc', Mm', g1, g2, g3, g4, g5⟩ := t_make (b := lN ((v + 7) / 8 * 8)) hx ht hf ha hu hw hO (Or.inl rfl) hp ⟨_, hPd⟩ hP kF_r hk c m (Or.inr ⟨_, by omega, rfl⟩)
  refine ⟨h', Mc', Mm', ?_, ?_, g3, g4, g5⟩
  · unfold pB
    rw [if_neg (by decide), if_neg (by decide), if_neg (by decide), if_pos (by decide), gr_1_0, ob_e, ck_e cl_2, ob_e, e_sizeOf b2 b1 hxk v2 (by omega), bd_e, ck_e cl_1, ob_e, nI_l (by omega), g1, ob_e]
  · have e1 : M1.1 176 x = nI ((v + 7) / 8 * 8) := by rw [hk.2.1 176 (by omega)]; exact v4
    unfold eB
    rw [if_neg (by decide), if_neg (by decide), if_neg (by decide), if_pos (by decide), if_neg (by decide), if_pos (by decide), gr_174_3, ob_e, ai_n an_176 (by omega) (by decide), ob_e, e1, ck_e cl_174, ob_e, nI_l (by omega), g2, ob_e]
theorem t_array {A : Int32} (hA : A = 1 ∨ A = 2 ∨ A = 4 ∨ A = 8) (hx : Rx n k s h Ps Mc Mm) (ht : t < 3) (hf : f < 5) (ha : Mc.1 (114 + 17 * t) 2 = nI (f + 1)) (hu : u < n) (hw : Wm k s u Mc Mm (Ps u) wl r) (hO : Mc.1 (31 + 15 * u + 4) p = nI 12) (hp : p < wl) (hPd : Ps u p (d + 1)) (hP : Ps u (nx (Mc.1 (31 + 15 * u + 4)) wl p) (d + 1)) (c : cF Mc t f u p (d + 1) L S) (hk : kG t f Mm M1) (m : mF M1 t f u (p + 1) (d + 1) L S) : Turn n k s h Ps t f (nI 12) A Mc M1 Mc Mm := by
  obtain ⟨C1, a1, a2, a3⟩ := c_pop ht hf c
  obtain ⟨N1, e1, e2, e3⟩ := m_pop ht hf m
  obtain ⟨b, b1, b2, b3⟩ := arr (x := S d) hA
  obtain ⟨h', Mc', Mm', g1, g2, g3, g4, g5⟩ := t_make (b := b) hx ht hf ha hu hw hO (Or.inr rfl) hp ⟨_, hPd⟩ hP a2 (kG_t hk e2) a3 e3 b1
  refine ⟨h', Mc', Mm', ?_, ?_, g3, g4, g5⟩
  · unfold pB
    rw [if_neg (by decide), if_neg (by decide), if_neg (by decide), if_neg (by decide), if_pos (by decide), ck_e (cl_f t ht f hf), ob_e, a1, bd_e, b2, bd_e, ck_e cl_1, ob_e, g1, ob_e]
  · unfold eB f_Mo_take j_Mo_take_11 j_Mo_take_30 j_Mo_take_49 j_Mo_take_75 j_Mo_take_90 j_Mo_take_103
    rw [if_neg (by decide), if_neg (by decide), if_neg (by decide), if_pos (by decide), if_neg (by decide), if_neg (by decide), if_neg (by decide), ck_e cl_174, ob_e, e1, bd_e, ob_e, if_neg (by decide), if_neg (by decide), if_pos (by decide), b3, bd_e, ob_e, g2, ob_e, if_neg (by decide), if_neg (by decide), if_neg (by decide), if_neg (by decide), ob_e]
/-- any instruction -/
theorem t_any (hx : Rx n k s h Ps Mc Mm) (ht : t < 3) (hf : f < 5) (ha : Mc.1 (114 + 17 * t) 2 = nI (f + 1)) : ∃ h' Mc' Mm', f_Machine_perform 1 (114 + 17 * t) Mc = some Mc' ∧ f_Mo_execute 174 (nI t) Mm = some Mm' ∧ Rx n k s h' Ps Mc' Mm' ∧ otC Mc Mc' ∧ otM Mm Mm' := by
  obtain ⟨u, p, d, wl, r, o, A, L, S, M1, hu, hPd, hw, c, m, hk, hp, ho, hO, hA, htk, hnx, hbr, hloc, hty, hwd, hcl, hperf, hexec⟩ := work hx ht hf ha
  rw [hperf, hexec]
  show Turn n k s h Ps t f (nI o) A Mc M1 Mc Mm
  have hn1 : ¬ (o = 11 ∨ o = 12) → ¬ (o = 8 ∨ o = 14 ∨ o = 15) → Ps u (p + 1) (d - tkN o + ptN o) := fun h1 h2 => by
    have := hnx h2
    rwa [nx_1 hO ho h1] at this
  have hgo : o ≤ 10 → ∀ p', ((p' = p + 1 ∧ o ≠ 8) ∨ ((o = 8 ∨ o = 9 ∨ o = 10) ∧ A = nI p' ∧ p' < 1000)) → Ps u p' (d - tkN o + ptN o) := by
    intro h10 p' hp'
    rcases hp' with ⟨rfl, h8⟩ | ⟨h8, h9, h11⟩
    · exact hn1 (by omega) (by omega)
    · obtain ⟨x, x1, x2, x3⟩ := hbr h8
      have : x = p' := (nI_eq (by have := hw.1; omega) (by omega)).mp (x2.symm.trans h9)
      rw [← this]
      exact x3
  rcases (show o = 0 ∨ o = 1 ∨ o = 2 ∨ (o = 3 ∨ o = 4 ∨ o = 5) ∨ o = 6 ∨ o = 7 ∨ o = 8 ∨ o = 9 ∨ o = 10 ∨ o = 11 ∨ o = 12 ∨ o = 13 ∨ o = 14 ∨ o = 15 by omega) with h9 | h9 | h9 | h9 | h9 | h9 | h9 | h9 | h9 | h9 | h9 | h9 | h9 | h9
  · subst h9
    have h5 := (flow5 (o := 0) hw (hn1 (by decide) (by decide))).1
    exact t_stay hx ht hf ha hu hk (st_0 ht hf c m (by change d - 0 + 1 ≤ 5 at h5; omega)) (hgo (by decide))
  · subst h9
    obtain ⟨x, x1, x2⟩ := hloc (by decide)
    have h5 := (flow5 (o := 0) hw (hn1 (by decide) (by decide))).1
    rw [x2] at hgo ⊢
    exact t_stay hx ht hf ha hu hk (st_1 x1 ht hf c m (by change d - 0 + 1 ≤ 5 at h5; omega)) (hgo (by decide))
  · subst h9
    obtain ⟨x, x1, x2⟩ := hloc (by decide)
    obtain ⟨d, rfl⟩ : ∃ d', d = d' + 1 := ⟨d - 1, by change 1 ≤ d at htk; omega⟩
    rw [x2] at hgo ⊢
    exact t_stay hx ht hf ha hu hk (st_2 x1 ht hf c m) (hgo (by decide))
  · obtain ⟨d, rfl⟩ : ∃ d', d = d' + 2 := ⟨d - 2, by rcases h9 with rfl | rfl | rfl <;> change 2 ≤ d at htk <;> omega⟩
    exact t_stay hx ht hf ha hu hk (st_345 h9 ht hf c m) (hgo (by rcases h9 with rfl | rfl | rfl <;> decide))
  · subst h9
    obtain ⟨d, rfl⟩ : ∃ d', d = d' + 1 := ⟨d - 1, by change 1 ≤ d at htk; omega⟩
    have h5 := (flow5 (o := 0) hw (hn1 (by decide) (by decide))).1
    exact t_stay hx ht hf ha hu hk (st_6 ht hf c m (by change d + 1 - 1 + 2 ≤ 5 at h5; omega)) (hgo (by decide))
  · subst h9
    obtain ⟨d, rfl⟩ : ∃ d', d = d' + 1 := ⟨d - 1, by change 1 ≤ d at htk; omega⟩
    exact t_stay hx ht hf ha hu hk (st_7 ht hf c m) (hgo (by decide))
  · subst h9
    obtain ⟨x, x1, x2, -⟩ := hbr (by decide)
    rw [x2] at hgo ⊢
    exact t_stay hx ht hf ha hu hk (st_8 (by have := hw.1; omega) ht hf c m) (hgo (by decide))
  · subst h9
    obtain ⟨x, x1, x2, -⟩ := hbr (by decide)
    obtain ⟨d, rfl⟩ : ∃ d', d = d' + 1 := ⟨d - 1, by change 1 ≤ d at htk; omega⟩
    rw [x2] at hgo ⊢
    exact t_stay hx ht hf ha hu hk (st_9 (by have := hw.1; omega) ht hf c m) (hgo (by decide))
  · subst h9
    obtain ⟨x, x1, x2, -⟩ := hbr (by decide)
    obtain ⟨d, rfl⟩ : ∃ d', d = d' + 1 := ⟨d - 1, by change 1 ≤ d at htk; omega⟩
    rw [x2] at hgo ⊢
    exact t_stay hx ht hf ha hu hk (st_10 (by have := hw.1; omega) ht hf c m) (hgo (by decide))
  · subst h9
    obtain ⟨x, x1, x2⟩ := hty rfl
    rw [x2]
    exact t_new hx ht hf ha hu hw hO hp hPd (hnx (by decide)) x1 c hk m
  · subst h9
    obtain ⟨d, rfl⟩ : ∃ d', d = d' + 1 := ⟨d - 1, by change 1 ≤ d at htk; omega⟩
    exact t_array (hwd rfl) hx ht hf ha hu hw hO hp hPd (hnx (by decide)) c hk m
  · subst h9
    obtain ⟨x, x1, x2⟩ := hcl rfl
    obtain ⟨d, rfl⟩ : ∃ d', d = d' + 1 := ⟨d - 1, by change 1 ≤ d at htk; omega⟩
    rw [x2]
    exact t_call hx ht hf ha hu hPd hO x1 c hk m
  · subst h9
    obtain ⟨d, rfl⟩ : ∃ d', d = d' + 1 := ⟨d - 1, by change 1 ≤ d at htk; omega⟩
    exact t_return hx ht hf ha c hk m
  · subst h9
    obtain ⟨d, rfl⟩ : ∃ d', d = d' + 1 := ⟨d - 1, by change 1 ≤ d at htk; omega⟩
    exact t_throw hx ht hf ha hu hPd c hk m
end ALLOC
