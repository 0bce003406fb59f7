/-! an object is made -/
def Rz (n k s he hf : Nat) (Ps : Nat → Nat → Nat → Prop) (Mc Mm : fm_M) : Prop := RA n Mc Mm ∧ RB k Mc Mm ∧ RC Mc Mm ∧ RD n k s Mc Mm Ps ∧ RX Mc Mm ∧ RE s he Mc Mm ∧ RF hf Mc Mm ∧ RG Mc Mm
def kFw (t f : Nat) (M M' : fm_M) : Prop := ∀ q, (q = 0 ∨ (24 ≤ q ∧ q ≤ 170)) → ¬ (q = 116 + 17 * t + 3 * f ∨ q = 116 + 17 * t + 3 * f + 1 ∨ q = 116 + 17 * t + 3 * f + 2) → M'.1 q = M.1 q
def kGw (t f : Nat) (M M' : fm_M) : Prop := (∀ q, 175 ≤ q → q ≤ 195 → M'.1 q = M.1 q) ∧ (∀ j, j ≠ 5 * t + f → M'.1 196 j = M.1 196 j ∧ M'.1 197 j = M.1 197 j) ∧ (∀ j, ¬ (4 * (5 * t + f) ≤ j ∧ j < 4 * (5 * t + f) + 4) → M'.1 198 j = M.1 198 j) ∧ ∀ j, ¬ (6 * (5 * t + f) ≤ j ∧ j < 6 * (5 * t + f) + 6) → M'.1 199 j = M.1 199 j
section MAKE
variable {n k s h he hh t f a u p d r wl : Nat} {M M1 M2 Mc Mm Mc' Mm' C C' N N' : fm_M} {L S : Nat → Int32} {Ps : Nat → Nat → Nat → Prop}
theorem kFw_k (h : kF t f M M1) : kFw t f M M1 := fun q _ hq => h.2 q hq
theorem kFw_t (h1 : kFw t f M M1) (h2 : kFw t f M1 M2) : kFw t f M M2 := fun q a b => (h2 q a b).trans (h1 q a b)
theorem kGw_k (h : kG t f M M1) : kGw t f M M1 := ⟨fun q a b => h.2.1 q (by omega), h.2.2.1, h.2.2.2.1, h.2.2.2.2⟩
theorem kGw_t (h1 : kGw t f M M1) (h2 : kGw t f M1 M2) : kGw t f M M2 := by
  obtain ⟨a2, a3, a4, a5⟩ := h1
  obtain ⟨b2, b3, b4, b5⟩ := h2
  exact ⟨fun q x y => (b2 q x y).trans (a2 q x y), fun j hj => ⟨(b3 j hj).1.trans (a3 j hj).1, (b3 j hj).2.trans (a3 j hj).2⟩, fun j hj => (b4 j hj).trans (a4 j hj), fun j hj => (b5 j hj).trans (a5 j hj)⟩
theorem kGw_o (h : ∀ q, 175 ≤ q → q ≤ 199 → M1.1 q = M.1 q) : kGw t f M M1 := ⟨fun q a b => h q a (by omega), fun j _ => ⟨by rw [h 196 (by decide) (by decide)], by rw [h 197 (by decide) (by decide)]⟩, fun j _ => by rw [h 198 (by decide) (by decide)], fun j _ => by rw [h 199 (by decide) (by decide)]⟩
theorem cF_o (h : cF M t f u p d L S) (ht : t < 3) (hf : f < 5) (hk : ∀ q, 24 ≤ q → q ≤ 170 → M1.1 q = M.1 q) : cF M1 t f u p d L S := by
  obtain ⟨a1, a2, a3, a4, a5, a6⟩ := h
  exact ⟨by rw [hk _ (by omega) (by omega)]; exact a1, by rw [hk _ (by omega) (by omega)]; exact a2, by rw [hk _ (by omega) (by omega)]; exact a3, fun j hj => by rw [hk _ (by omega) (by omega)]; exact a4 j hj, fun j hj => by rw [hk _ (by omega) (by omega)]; exact a5 j hj, a6⟩
theorem mF_o (h : mF M t f u p d L S) (hk : ∀ q, 175 ≤ q → q ≤ 199 → M1.1 q = M.1 q) : mF M1 t f u p d L S := by
  obtain ⟨a1, a2, a3, a4, a5, a6⟩ := h
  exact ⟨by rw [hk 195 (by decide) (by decide)]; exact a1, by rw [hk 196 (by decide) (by decide)]; exact a2, by rw [hk 197 (by decide) (by decide)]; exact a3, fun j hj => by rw [hk 198 (by decide) (by decide)]; exact a4 j hj, fun j hj => by rw [hk 199 (by decide) (by decide)]; exact a5 j hj, a6⟩
theorem RS_w (ht : t < 3) (hf : f < 5) (hn : n ≤ 6) (hs : RS Mc Mm n Ps) (ha : Mc.1 (114 + 17 * t) 2 = nI (f + 1)) (hc : kFw t f Mc Mc') (hm : kGw t f Mm Mm') (c : cF Mc' t f u p d L S) (m : mF Mm' t f u p d L S) (hu : u < n) (hP : Ps u p d) : RS Mc' Mm' n Ps := by
  intro v hv
  obtain ⟨m1, m2, m3, m4⟩ := hm
  by_cases hvt : v = t
  · subst hvt
    obtain ⟨s1, s2, s3, s4, s5, -⟩ := SR_split (hs v hv) ha hf
    refine SR_mk hf (by rw [hc _ (by omega) (by omega)]; exact s1) (by rw [hc _ (by omega) (by omega)]; exact ha) (by rw [m1 192 (by decide) (by decide)]; exact s2) (by rw [m1 193 (by decide) (by decide)]; exact s3) (by rw [hc 0 (by omega) (by omega)]; exact s4) (fun f' hf' => ?_) (FR_j c m) hu hP
    obtain ⟨p', d', u', h1, h2, h3, h4⟩ := s5 f' hf'
    have hd : d' ≤ 5 := h1.2.2.2.2.2.2.2.2
    exact ⟨p', d', u', FR_c h1 (hc _ (by omega) (by omega)) (hc _ (by omega) (by omega)) (hc _ (by omega) (by omega)) (by rw [m1 195 (by decide) (by decide)]) (m2 _ (by omega)).1 (m2 _ (by omega)).2 (fun j hj => m3 _ (by omega)) (fun j hj => m4 _ (by omega)), h2, h3, by rw [hc _ (by omega) (by omega)]; exact h4⟩
  · exact SR_o (t := t) (hs v hv) hn hv hvt (by rw [hc 0 (by omega) (by omega)]) (fun m hm => hc _ (by omega) (by omega)) (fun q a b c => hc q (by omega) (by omega)) (fun q a b j hj => by rw [m1 q (by omega) (by omega)]) (fun q a b j hj => by
      rcases (show q = 195 ∨ q = 196 ∨ q = 197 by omega) with h9 | h9 | h9 <;> subst h9
      · rw [m1 195 (by decide) (by decide)]
      · exact (m2 j (by omega)).1
      · exact (m2 j (by omega)).2) (fun j hj => m3 j (by omega)) (fun j hj => m4 j (by omega))
theorem Rz_t (ht : t < 3) (hx : Rz n k s he hh Ps Mc Mm) (hc : kC t Mc Mc') (hm : kM t Mm Mm') : Rz n k s he hh Ps Mc' Mm' := by
  obtain ⟨xa, xb, xc, xd, xe, xf, xg, xh⟩ := hx
  obtain ⟨c0, c1⟩ := hc
  obtain ⟨m0', m1, m2, m3, m4, m5⟩ := hm
  have c2 : ∀ q, q < 114 → Mc'.1 q = Mc.1 q := fun q hq => c1 q (by omega)
  have c3 : ∀ q, 165 ≤ q → Mc'.1 q = Mc.1 q := fun q hq => c1 q (by omega)
  have m7 : ∀ q, q < 192 → Mm'.1 q = Mm.1 q := fun q hq => m1 q (by omega)
  have m8 : ∀ q, 200 ≤ q → Mm'.1 q = Mm.1 q := fun q hq => m1 q (by omega)
  have m9 : ∀ z, Mm'.1 174 z = Mm.1 174 z := fun z => by rw [m7 174 (by decide)]
  exact ⟨RA_c xa (c2 0 (by decide)) (fun j _ _ => m9 j), RB_c xb (c2 2 (by decide)) (c2 3 (by decide)) (m9 1) (m7 175 (by decide)) (m7 176 (by decide)), RC_c xc (fun q a b => c3 q a) (m9 4) (m9 7) (fun q a b => m7 q (by omega)), RD_c xd xa.1 (fun q a b => c2 q (by omega)) (fun q a b => m7 q (by omega)), RX_c xe (fun m hm => by rw [c2 (24 + 15 * m) (by omega)]) (m7 180 (by decide)), RE_c xf (by rw [c2 0 (by decide)]) (c2 7 (by decide)) (fun q a b => ⟨c2 q (by omega), by rw [c0], by rw [c0]⟩) (m9 23) (m9 42) (m9 44) (fun q a b => ⟨m8 q (by omega), by rw [m0'], by rw [m0']⟩), RF_c xg (c2 5 (by decide)) (c2 6 (by decide)) (m9 35) (m8 200 (by decide)), RG_c xh (c2 1 (by decide)) (m9 33) (m9 34)⟩
def hpC (C : fm_M) (h x : Nat) : fm_M := fm_sI (fm_sI C 6 h (nI x)) 5 1 (nI (h + 1))
def hpM (N : fm_M) (h x : Nat) : fm_M := fm_sI (fm_sI N 174 35 (nI (h + 1))) 200 (h + 1) (nI x)
theorem Rz_h {x : Nat} (hx : Rz n k s h h Ps C N) (hh : h < 400) : Rz n k s h (h + 1) Ps (hpC C h x) (hpM N h x) := by
  obtain ⟨xa, xb, xc, xd, xe, xf, xg, xh⟩ := hx
  have c1 : ∀ q, q ≠ 5 → q ≠ 6 → (hpC C h x).1 q = C.1 q := fun q a b => by unfold hpC; rw [row_ne a, row_ne b]
  have m1 : ∀ q, q ≠ 174 → q ≠ 200 → (hpM N h x).1 q = N.1 q := fun q a b => by unfold hpM; rw [row_ne b, row_ne a]
  have m9 : ∀ z, z ≠ 35 → (hpM N h x).1 174 z = N.1 174 z := fun z hz => by unfold hpM; rw [sI_r, if_neg (by omega), sI_r, if_neg (by omega)]
  refine ⟨RA_c xa (c1 0 (by decide) (by decide)) (fun j a b => m9 j (by omega)), RB_c xb (c1 2 (by decide) (by decide)) (c1 3 (by decide) (by decide)) (m9 1 (by decide)) (m1 175 (by decide) (by decide)) (m1 176 (by decide) (by decide)), RC_c xc (fun q a b => c1 q (by omega) (by omega)) (m9 4 (by decide)) (m9 7 (by decide)) (fun q a b => m1 q (by omega) (by omega)), RD_c xd xa.1 (fun q a b => c1 q (by omega) (by omega)) (fun q a b => m1 q (by omega) (by omega)), RX_c xe (fun m hm => by rw [c1 (24 + 15 * m) (by omega) (by omega)]) (m1 180 (by decide) (by decide)), RE_c xf (by rw [c1 0 (by decide) (by decide)]) (c1 7 (by decide) (by decide)) (fun q a b => ⟨c1 q (by omega) (by omega), rfl, rfl⟩) (m9 23 (by decide)) (m9 42 (by decide)) (m9 44 (by decide)) (fun q a b => ⟨m1 q (by omega) (by omega), rfl, rfl⟩), ⟨by omega, ?_, ?_, fun i hi => ?_⟩, RG_c xh (c1 1 (by decide) (by decide)) (m9 33 (by decide)) (m9 34 (by decide))⟩
  · unfold hpC; rw [sI_r, if_pos ⟨rfl, rfl⟩]
  · unfold hpM; rw [sI_r, if_neg (by omega), sI_r, if_pos ⟨rfl, rfl⟩]
  · unfold hpC hpM
    rw [sI_r, if_neg (by omega), sI_r, sI_r]
    by_cases hi2 : i = h
    · rw [if_pos ⟨rfl, hi2⟩, if_pos ⟨rfl, by omega⟩]
    · rw [if_neg (fun h => hi2 h.2), if_neg (by omega), sI_r, if_neg (by omega)]
      exact xg.2.2.2 i (by omega)
theorem RE_up (hx : RE s h C N) : RE s (h + 1) C N := by
  obtain ⟨a, b, c, d, ⟨e1, e2, e3⟩, ⟨f1, f2, f3⟩, g, i⟩ := hx
  refine ⟨a, b, c, d, ⟨fun t ht j hj => ?_, fun t ht j hj => ?_, e3⟩, ⟨fun j hj => ?_, fun j hj => ?_, f3⟩, g, i⟩
  · obtain ⟨o, o1, o2⟩ := e1 t ht j hj
    exact ⟨o, by omega, o2⟩
  · obtain ⟨o, o1, o2⟩ := e2 t ht j hj
    exact ⟨o, by omega, o2⟩
  · obtain ⟨o, o1, o2⟩ := f1 j hj
    exact ⟨o, by omega, o2⟩
  · obtain ⟨o, o1, o2⟩ := f2 j hj
    exact ⟨o, by omega, o2⟩
/-- the counters behind a report -/
theorem RE_report {j x : Nat} {σ : Int32} (hx : RE s h C N) (hh : h < 400) (ht : t < 3) (hj : j < s) (hxx : x ≤ 100000) (hw : C.1 0 9 = 1) (hσ : ∀ N1 : fm_M, N1.1 192 = N.1 192 → N1.1 195 = N.1 195 → f_Mo_stackOf 174 (nI t) N1 = some (σ, N1)) : ∃ C' N', f_Ledger_report 7 (nI j) (nI t) (nI x) σ C = some C' ∧ f_Mo_report 174 (nI t) (nI j) (nI x) N = some N' ∧ RE s (h + 1) C' N' ∧ (∀ q, ¬ (q = 7 ∨ (9 ≤ q ∧ q ≤ 22)) → C'.1 q = C.1 q) ∧ (∀ q, ¬ (9 ≤ q ∧ q ≤ 22) → C'.2.1 q = C.2.1 q) ∧ C'.2.2 = C.2.2 ∧ (∀ q, ¬ (q = 174 ∨ (201 ≤ q ∧ q ≤ 209)) → N'.1 q = N.1 q) ∧ (∀ z, z ≠ 44 → N'.1 174 z = N.1 174 z) ∧ (∀ q, ¬ (201 ≤ q ∧ q ≤ 209) → N'.2.1 q = N.2.1 q) ∧ N'.2.2 = N.2.2 := by
  obtain ⟨xa, xb, xc, xd, ⟨e1, e2, e3⟩, ⟨f1, f2, f3⟩, ⟨e, g1, g2, g3, g4, g5⟩, xi⟩ := hx
  obtain ⟨I, i1, i2, i3, i4, i5⟩ := xi hw
  obtain ⟨c, c1, c2, c3, c4⟩ := i5 t ht
  obtain ⟨o, o1, o2, o3⟩ := e1 t ht j (by omega)
  obtain ⟨b, b1, b2, b3⟩ := e2 t ht j (by omega)
  obtain ⟨fr, fr1, fr2, fr3⟩ := f1 j (by omega)
  obtain ⟨sx, sx1, sx2, sx3⟩ := f2 j (by omega)
  obtain ⟨D, hD, C', p1, p2⟩ := c_report (σ := σ) ht hj xa c1 c2 i1 i2 hxx g1 (by omega) (by omega) xb g2 i3 o2 b2 fr2 sx2 c3
  obtain ⟨N0, N', q1, q2, q3, q4, q5, q6, q7⟩ := m_report (σ := σ) ht (show j < 78 by omega) i4 g3 g1 (by omega) hxx hD c4 o3 b3 hσ
  obtain ⟨v1, v2, v3, v4, v5, v6, v7, v8, v9, v10, v11⟩ := p2
  obtain ⟨w1, w2, w3, w4, w5, w6, w7⟩ := q7
  have hfd : fd (N.1 207) (N.1 208) (nI j) σ e 0 = fd (C.1 20) (C.1 21) (nI j) σ e 0 := fd_c e 0 (fun z _ hz => ⟨(g4 z (by omega)).1.symm, (g4 z (by omega)).2.1.symm⟩)
  rw [hfd] at w6 w7
  have hkb := fd_b (es := C.1 20) (et := C.1 21) (j := nI j) (σ := σ) e 0
  generalize fd (C.1 20) (C.1 21) (nI j) σ e 0 = k0 at v10 v11 w6 w7 hkb
  generalize hE : (if k0 = e ∧ e < 16 ∧ 0 < D then e + 1 else e) = E at v10 w6
  have hEd : (E = e + 1 ∧ k0 = e ∧ e < 16 ∧ 0 < D) ∨ (E = e ∧ ¬ (k0 = e ∧ e < 16 ∧ 0 < D)) := by
    rw [← hE]
    by_cases h9 : k0 = e ∧ e < 16 ∧ 0 < D
    · rw [if_pos h9]; exact Or.inl ⟨rfl, h9⟩
    · rw [if_neg h9]; exact Or.inr ⟨rfl, h9⟩
  have n2 : ∀ q, N'.2.1 q = N0.2.1 q := fun q => by rw [w1]
  have hD2 : D ≤ 2001 := hD.2.2.2.1
  have h202 : ∀ z, N'.2.1 202 z = if z = 3 * j + t then N.2.1 202 (3 * j + t) + lN x else N.2.1 202 z := fun z => by
    rw [n2, q6, b3, lN_add]
  refine ⟨C', N', p1, q1, ⟨xa, by rw [v9 9 (by decide)]; exact xb, by rw [w3 23 (by decide), q2]; exact xc, by rw [v2 0 (by omega)]; exact xd, ⟨fun t' ht' j' hj' => ?_, fun t' ht' j' hj' => ?_, fun z hz1 hz2 => ?_⟩, ⟨fun j' hj' => ?_, fun j' hj' => ?_, fun j' hj' => ?_⟩, ⟨E, by omega, v10, w6, fun i hi => ⟨?_, ?_, ?_⟩, fun i hi1 hi2 => ?_⟩, fun _ => ⟨I, i1, i2, by rw [v9 11 (by decide)]; exact i3, by rw [w3 42 (by decide), q2]; exact i4, fun t' ht' => ?_⟩⟩, fun q hq => v2 q (by omega), fun q hq => v3 q (by omega), v1, fun q hq => by rw [w2 q (by omega), q2], fun z hz => by rw [w3 z hz, q2], fun q hq => by rw [n2, q4 q (by omega)], by rw [w1, q3]⟩
  · by_cases h1 : t' = t
    · subst h1
      by_cases h2 : j' = j
      · subst h2
        exact ⟨o + 1, by omega, by rw [v4, if_pos rfl], by rw [n2, q5, if_pos rfl]⟩
      · obtain ⟨y, y1, y2, y3⟩ := e1 t' ht' j' hj'
        exact ⟨y, by omega, by rw [v4, if_neg h2]; exact y2, by rw [n2, q5, if_neg (by omega)]; exact y3⟩
    · obtain ⟨y, y1, y2, y3⟩ := e1 t' ht' j' hj'
      exact ⟨y, by omega, by rw [v2 _ (by omega)]; exact y2, by rw [n2, q5, if_neg (by omega)]; exact y3⟩
  · by_cases h1 : t' = t
    · subst h1
      by_cases h2 : j' = j
      · subst h2
        exact ⟨b + x, by omega, by rw [v5, if_pos rfl], by rw [n2, q6, if_pos rfl]⟩
      · obtain ⟨y, y1, y2, y3⟩ := e2 t' ht' j' hj'
        exact ⟨y, by omega, by rw [v5, if_neg h2]; exact y2, by rw [n2, q6, if_neg (by omega)]; exact y3⟩
    · obtain ⟨y, y1, y2, y3⟩ := e2 t' ht' j' hj'
      exact ⟨y, by omega, by rw [v3 _ (by omega)]; exact y2, by rw [n2, q6, if_neg (by omega)]; exact y3⟩
  · rw [h202, if_neg (by omega)]
    exact e3 z hz1 hz2
  · rw [show N'.2.1 205 = N.2.1 205 by rw [n2, q4 205 (by decide)], h202, h202, h202]
    by_cases h2 : j' = j
    · subst h2
      refine ⟨fr + x, by omega, by rw [v6, if_pos rfl], ?_⟩
      rw [← lN_add fr x, ← fr3]
      rcases (show t = 0 ∨ t = 1 ∨ t = 2 by omega) with h9 | h9 | h9 <;> subst h9
      · rw [if_pos (show 3 * j' = 3 * j' + 0 from rfl), if_neg (by omega), if_neg (by omega)]
        simp only [Int64.sub_eq_add_neg, Nat.add_zero]
        ac_rfl
      · rw [if_neg (by omega), if_pos rfl, if_neg (by omega)]
        simp only [Int64.sub_eq_add_neg]
        ac_rfl
      · rw [if_neg (by omega), if_neg (by omega), if_pos rfl]
        simp only [Int64.sub_eq_add_neg]
        ac_rfl
    · obtain ⟨y, y1, y2, y3⟩ := f1 j' hj'
      refine ⟨y, by omega, by rw [v6, if_neg h2]; exact y2, ?_⟩
      rw [if_neg (by omega), if_neg (by omega), if_neg (by omega)]
      exact y3
  · rw [v7, w5, q2]
    by_cases h2 : j' = j
    · rw [if_pos h2, if_pos h2]
      exact ⟨sx + D, by omega, rfl, by rw [sx3, nI_add]⟩
    · rw [if_neg h2, if_neg h2]
      obtain ⟨y, y1, y2⟩ := f2 j' hj'
      exact ⟨y, by omega, y2⟩
  · rw [v1, w1, q3]
    exact f3 j' hj'
  · rw [(v11 i (by omega)).1, (w7 i (by omega)).1, q2]
    by_cases h9 : k0 = e ∧ i = e ∧ 0 < D
    · rw [if_pos h9, if_pos h9]
    · rw [if_neg h9, if_neg h9]
      exact (g4 i (by omega)).1
  · rw [(v11 i (by omega)).2.1, (w7 i (by omega)).2.1, q2]
    by_cases h9 : k0 = e ∧ i = e ∧ 0 < D
    · rw [if_pos h9, if_pos h9]
    · rw [if_neg h9, if_neg h9]
      exact (g4 i (by omega)).2.1
  · rw [(v11 i (by omega)).2.2, (w7 i (by omega)).2.2, q2]
    by_cases h9 : i = k0 ∧ 0 < D
    · rw [if_pos h9, if_pos h9]
      by_cases h8 : k0 = e
      · rw [if_pos h8, g5 i (by omega) (by omega)]
      · rw [if_neg h8, (g4 i (by omega)).2.2]
    · rw [if_neg h9, if_neg h9]
      exact (g4 i (by omega)).2.2
  · rw [(v11 i (by omega)).2.2, if_neg (by omega)]
    exact g5 i (by omega) (by omega)
  · have d1 := hD.2.1
    have d2 := hD.2.2.1
    rw [v8, w4, q2]
    by_cases h1 : t' = t
    · rw [if_pos h1, if_pos h1]
      exact ⟨c + D * I - x, by omega, by omega, rfl, nI_sub (by omega)⟩
    · rw [if_neg h1, if_neg h1]
      exact i5 t' ht'
end MAKE
