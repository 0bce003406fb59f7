/-! a report, on both sides -/
theorem rsub (a b x : Nat) : nI a - nI x + nI b = nI (a + b) - nI x := by
  rw [Int32.sub_eq_add_neg, Int32.add_assoc, Int32.add_comm (-nI x), ← Int32.add_assoc, ← Int32.sub_eq_add_neg, nI_add]
/-- how many samples are due -/
def due (c I x D : Nat) : Prop := (∀ i, i < D → c + i * I ≤ x) ∧ x < c + D * I ∧ c + D * I ≤ x + I ∧ D ≤ 2001 ∧ D * I ≤ 400000
theorem due_of {c I x : Nat} (h1 : 1 ≤ c) (h2 : c ≤ I) (h3 : 50 ≤ I) (h4 : I ≤ 100000) (hx : x ≤ 100000) : due c I x (if x < c then 0 else (x - c) / I + 1) := by
  by_cases h : x < c
  · rw [if_pos h]
    exact ⟨fun i hi => absurd hi (Nat.not_lt_zero _), by omega, by omega, by omega, by omega⟩
  · rw [if_neg h]
    have hq := Nat.div_add_mod (x - c) I
    have hr := Nat.mod_lt (x - c) (show 0 < I by omega)
    have hs : (x - c) / I ≤ 2000 := by
      have : (x - c) / I ≤ 100000 / 50 := Nat.le_trans (Nat.div_le_div_right (by omega)) (Nat.div_le_div_left h3 (by decide))
      omega
    have hm : ((x - c) / I + 1) * I = I * ((x - c) / I) + I := by rw [Nat.add_mul, Nat.one_mul, Nat.mul_comm]
    refine ⟨fun i hi => ?_, by omega, by omega, by omega, by omega⟩
    have : i * I ≤ (x - c) / I * I := Nat.mul_le_mul_right I (by omega)
    rw [Nat.mul_comm ((x - c) / I) I] at this
    omega
section REP
variable {t j s e o b fr sx c I x D : Nat} {σ : Int32} {C N0 N : fm_M}
theorem c_draw (ht : t < 3) (h1 : 1 ≤ c) (h2 : c ≤ I) (h3 : 50 ≤ I) (h4 : I ≤ 100000) (hx : x ≤ 100000) (hc : C.1 19 t = nI c) (hI : C.1 7 11 = nI I) : ∃ D, due c I x D ∧ ∃ C', f_Ledger_drawSamples 7 (nI t) (nI x) C = some (nI D, C') ∧ C'.2 = C.2 ∧ (∀ q, q ≠ 19 → C'.1 q = C.1 q) ∧ ∀ z, C'.1 19 z = if z = t then nI (c + D * I - x) else C.1 19 z := by
  have hD := due_of h1 h2 h3 h4 hx
  have e1 : ∀ v : Int32, (fm_sI C 19 t v).1 19 t = v := fun v => by rw [sI_r, if_pos ⟨rfl, rfl⟩]
  have e2 : ∀ v : Int32, (fm_sI C 19 t v).1 7 11 = nI I := fun v => by rw [sI_r, if_neg (by omega)]; exact hI
  by_cases h : x < c
  · rw [if_pos h] at hD
    refine ⟨0, hD, fm_sI C 19 t (nI c - nI x), ?_, rfl, fun q hq => row_ne hq, fun z => ?_⟩
    · unfold f_Ledger_drawSamples
      rw [gr_7_5, ob_e, ai_n an_19 ht (by decide), ob_e, hc, si_n an_19 ht (by decide), ob_e, ob_e, ai_n an_19 ht (by decide), ob_e, e1, nI_sub (by omega), if_neg (nI_nle (by omega) (by omega))]
      rfl
    · rw [sI_r, nI_sub (by omega), show c + 0 * I - x = c - x by omega]
      simp
  · rw [if_neg h] at hD
    refine ⟨(x - c) / I + 1, hD, fm_sI (fm_sI C 19 t (nI c - nI x)) 19 t (nI (c + ((x - c) / I + 1) * I - x)), ?_, rfl, fun q hq => by rw [row_ne hq, row_ne hq], fun z => ?_⟩
    · have hv : (nI c - nI x).toInt = (c : Int) - x := pk_sub_toInt (by omega) (by omega)
      have hneg : -(nI c - nI x) = nI (x - c) := by rw [Int32.neg_sub, nI_sub (by omega)]
      have hd2 := hD.2.1
      unfold f_Ledger_drawSamples
      rw [gr_7_5, ob_e, ai_n an_19 ht (by decide), ob_e, hc, si_n an_19 ht (by decide), ob_e, ob_e, ai_n an_19 ht (by decide), ob_e, e1, if_pos (by rw [Int32.le_iff_toInt_le, hv]; show (c : Int) - x ≤ 0; omega), ob_e, ai_n an_19 ht (by decide), ob_e, gi_e cl_7, ob_e, e1, e2, if_neg (nI_ne0 (by omega) (by omega)), ob_e, ai_n an_19 ht (by decide), ob_e, ob_e, e1, hneg, pk_div (by omega) (by omega) (by omega), nI_1, nI_mul, rsub, nI_sub (by omega), si_n an_19 ht (by decide), ob_e]
    · rw [sI_r]
      by_cases hz : z = t
      · rw [if_pos ⟨rfl, hz⟩, if_pos hz]
      · rw [if_neg (fun h => hz h.2), if_neg hz, sI_r, if_neg (fun h => hz h.2)]
/-- what the class's rows are behind a report -/
def cR (C C' : fm_M) (t j s e o b fr sx c I x D : Nat) (σ : Int32) : Prop := C'.2.2 = C.2.2 ∧ (∀ q, ¬ (q = 7 ∨ q = 9 + t ∨ q = 17 ∨ q = 19 ∨ q = 20 ∨ q = 21 ∨ q = 22) → C'.1 q = C.1 q) ∧ (∀ q, ¬ (q = 13 + t ∨ q = 16) → C'.2.1 q = C.2.1 q) ∧ (∀ z, C'.1 (9 + t) z = if z = j then nI (o + 1) else C.1 (9 + t) z) ∧ (∀ z, C'.2.1 (13 + t) z = if z = j then lN (b + x) else C.2.1 (13 + t) z) ∧ (∀ z, C'.2.1 16 z = if z = j then lN (fr + x) else C.2.1 16 z) ∧ (∀ z, C'.1 17 z = if z = j then nI (sx + D) else C.1 17 z) ∧ (∀ z, C'.1 19 z = if z = t then nI (c + D * I - x) else C.1 19 z) ∧ (∀ z, z ≠ 10 → C'.1 7 z = C.1 7 z) ∧ C'.1 7 10 = nI (if fd (C.1 20) (C.1 21) (nI j) σ e 0 = e ∧ e < 16 ∧ 0 < D then e + 1 else e) ∧ ∀ z, z < 16 → C'.1 20 z = (if fd (C.1 20) (C.1 21) (nI j) σ e 0 = e ∧ z = e ∧ 0 < D then nI j else C.1 20 z) ∧ C'.1 21 z = (if fd (C.1 20) (C.1 21) (nI j) σ e 0 = e ∧ z = e ∧ 0 < D then σ else C.1 21 z) ∧ C'.1 22 z = if z = fd (C.1 20) (C.1 21) (nI j) σ e 0 ∧ 0 < D then C.1 22 z + nI D else C.1 22 z
theorem c_report (ht : t < 3) (hj : j < s) (hs : s ≤ 78) (h1 : 1 ≤ c) (h2 : c ≤ I) (h3 : 50 ≤ I) (h4 : I ≤ 100000) (hx : x ≤ 100000) (he6 : e ≤ 16) (ho : o ≤ 400) (hsx : sx ≤ 1000000) (k1 : C.1 7 9 = nI s) (k2 : C.1 7 10 = nI e) (k3 : C.1 7 11 = nI I) (k4 : C.1 (9 + t) j = nI o) (k5 : C.2.1 (13 + t) j = lN b) (k6 : C.2.1 16 j = lN fr) (k7 : C.1 17 j = nI sx) (k8 : C.1 19 t = nI c) : ∃ D, due c I x D ∧ ∃ C', f_Ledger_report 7 (nI j) (nI t) (nI x) σ C = some C' ∧ cR C C' t j s e o b fr sx c I x D σ := by
  generalize hC1 : fm_sJ (fm_sJ (fm_sI C (9 + t) j (nI (o + 1))) (13 + t) j (lN (b + x))) 16 j (lN (fr + x)) = C1
  have r1 : ∀ q, q ≠ 9 + t → C1.1 q = C.1 q := fun q hq => by
    rw [← hC1]
    show (fm_sI C (9 + t) j (nI (o + 1))).1 q = C.1 q
    exact row_ne hq
  have r2 : ∀ z, C1.1 (9 + t) z = if z = j then nI (o + 1) else C.1 (9 + t) z := fun z => by
    rw [← hC1]
    show (fm_sI C (9 + t) j (nI (o + 1))).1 (9 + t) z = _
    rw [sI_r]
    simp
  have r3 : C1.2.2 = C.2.2 := by rw [← hC1]; rfl
  have r4 : ∀ q, ¬ (q = 13 + t ∨ q = 16) → C1.2.1 q = C.2.1 q := fun q hq => by
    rw [← hC1]
    funext z
    rw [sJ_r, if_neg (by omega), sJ_r, if_neg (by omega)]
    rfl
  have r5 : ∀ z, C1.2.1 (13 + t) z = if z = j then lN (b + x) else C.2.1 (13 + t) z := fun z => by
    rw [← hC1, sJ_r, if_neg (by omega), sJ_r]
    by_cases hz : z = j
    · rw [if_pos ⟨rfl, hz⟩, if_pos hz]
    · rw [if_neg (fun h => hz h.2), if_neg hz]; rfl
  have r6 : ∀ z, C1.2.1 16 z = if z = j then lN (fr + x) else C.2.1 16 z := fun z => by
    rw [← hC1, sJ_r]
    by_cases hz : z = j
    · rw [if_pos ⟨rfl, hz⟩, if_pos hz]
    · rw [if_neg (fun h => hz h.2), if_neg hz, sJ_r, if_neg (by omega)]; rfl
  obtain ⟨D, hD, C2, d1, d2, d3, d4⟩ := c_draw (C := C1) (x := x) ht h1 h2 h3 h4 hx (by rw [r1 19 (by omega)]; exact k8) (by rw [r1 7 (by omega)]; exact k3)
  have pre : f_Ledger_report 7 (nI j) (nI t) (nI x) σ C = (if nI D ≤ 0 then some C2 else (ai 17 (nI j) C2).bind fun x134 => (si 17 (nI j) (x134 + nI D) C2).bind fun M136 => (f_Ledger_countInEntry 7 (nI j) σ (nI D) M136).bind fun M139 => some M139) := by
    unfold f_Ledger_report
    rw [if_neg (nI_pos (by omega)), gi_e cl_7, ob_e, k1, if_pos (nI_lt hj (by omega)), gr_7_0, ob_e, ar_8 t ht, ob_e, ai_n (an_9 t ht) (by omega) (by decide), ob_e, k4, nI_1, si_n (an_9 t ht) (by omega) (by decide), ob_e, gr_7_1, ob_e, ar_12 t ht, ob_e, aj_n (an_13 t ht) (by omega) (by decide), ob_e, show (fm_sI C (9 + t) j (nI (o + 1))).2.1 (13 + t) j = lN b from k5, nI_l (by omega), lN_add, sj_n (an_13 t ht) (by omega) (by decide), ob_e, gr_7_2, ob_e, aj_n an_16 (by omega) (by decide), ob_e, sJ_r, if_neg (by omega), show (fm_sI C (9 + t) j (nI (o + 1))).2.1 16 j = lN fr from k6, lN_add, sj_n an_16 (by omega) (by decide), ob_e, ck_e cl_7, ob_e, hC1, d1, bd_e, gr_7_3, ob_e]
    rfl
  by_cases hD0 : D = 0
  · subst hD0
    refine ⟨0, hD, C2, by rw [pre, if_pos (by decide)], by rw [d2]; exact r3, fun q hq => ?_, fun q hq => by rw [d2]; exact r4 q hq, fun z => by rw [d3 _ (by omega)]; exact r2 z, fun z => by rw [d2]; exact r5 z, fun z => by rw [d2]; exact r6 z, fun z => ?_, fun z => ?_, fun z hz => by rw [d3 7 (by omega), r1 7 (by omega)], ?_, fun z hz => ⟨?_, ?_, ?_⟩⟩
    · rw [d3 q (by omega), r1 q (by omega)]
    · rw [d3 17 (by omega), r1 17 (by omega)]
      by_cases hz : z = j
      · rw [if_pos hz, hz, k7]; rfl
      · rw [if_neg hz]
    · rw [d4, r1 19 (by omega)]
    · rw [d3 7 (by omega), r1 7 (by omega), if_neg (fun h => absurd h.2.2 (by decide))]; exact k2
    · rw [d3 20 (by omega), r1 20 (by omega), if_neg (fun h => absurd h.2.2 (by decide))]
    · rw [d3 21 (by omega), r1 21 (by omega), if_neg (fun h => absurd h.2.2 (by decide))]
    · rw [d3 22 (by omega), r1 22 (by omega), if_neg (fun h => absurd h.2 (by decide))]
  · have hD1 := hD.2.2.2.1
    have h17 : C2.1 17 j = nI sx := by rw [d3 17 (by omega), r1 17 (by omega)]; exact k7
    have q1 : ∀ q, q ≠ 17 → (fm_sI C2 17 j (nI (sx + D))).1 q = C2.1 q := fun q hq => row_ne hq
    have w20 : (fm_sI C2 17 j (nI (sx + D))).1 20 = C.1 20 := by rw [q1 20 (by omega), d3 20 (by omega), r1 20 (by omega)]
    have w21 : (fm_sI C2 17 j (nI (sx + D))).1 21 = C.1 21 := by rw [q1 21 (by omega), d3 21 (by omega), r1 21 (by omega)]
    have w22 : (fm_sI C2 17 j (nI (sx + D))).1 22 = C.1 22 := by rw [q1 22 (by omega), d3 22 (by omega), r1 22 (by omega)]
    have w7 : (fm_sI C2 17 j (nI (sx + D))).1 7 = C.1 7 := by rw [q1 7 (by omega), d3 7 (by omega), r1 7 (by omega)]
    obtain ⟨C3, e1, e2, e3, e4, e5, e6⟩ := c_entry (M := fm_sI C2 17 j (nI (sx + D))) (j := nI j) (σ := σ) (D := D) (by rw [w7]; exact k2) he6
    rw [w20, w21, w22] at e6
    rw [w20, w21] at e5
    have e7 : C3.2 = C2.2 := e2
    refine ⟨D, hD, C3, ?_, by rw [e7, d2]; exact r3, fun q hq => ?_, fun q hq => by rw [e7, d2]; exact r4 q hq, fun z => ?_, fun z => by rw [e7, d2]; exact r5 z, fun z => by rw [e7, d2]; exact r6 z, fun z => ?_, fun z => ?_, fun z hz => by rw [e4 z hz, w7], ?_, fun z hz => ⟨?_, ?_, ?_⟩⟩
    · rw [pre, if_neg (nI_nle (by omega) (by omega)), ai_n an_17 (by omega) (by decide), ob_e, h17, nI_add, si_n an_17 (by omega) (by decide), ob_e, e1, ob_e]
    · rw [e3 q (by omega), q1 q (by omega), d3 q (by omega), r1 q (by omega)]
    · rw [e3 (9 + t) (by omega), q1 (9 + t) (by omega), d3 (9 + t) (by omega)]; exact r2 z
    · rw [e3 17 (by omega), sI_r]
      by_cases hz : z = j
      · rw [if_pos ⟨rfl, hz⟩, if_pos hz]
      · rw [if_neg (fun h => hz h.2), if_neg hz, d3 17 (by omega), r1 17 (by omega)]
    · rw [e3 19 (by omega), q1 19 (by omega), d4, r1 19 (by omega)]
    · rw [e5]
      by_cases hq : fd (C.1 20) (C.1 21) (nI j) σ e 0 = e ∧ e < 16
      · rw [if_pos hq, if_pos ⟨hq.1, hq.2, by omega⟩]
      · rw [if_neg hq, if_neg (fun h => hq ⟨h.1, h.2.1⟩)]
    · rw [(e6 z hz).1]
      by_cases hq : fd (C.1 20) (C.1 21) (nI j) σ e 0 = e ∧ z = e
      · rw [if_pos hq, if_pos ⟨hq.1, hq.2, by omega⟩]
      · rw [if_neg hq, if_neg (fun h => hq ⟨h.1, h.2.1⟩)]
    · rw [(e6 z hz).2.1]
      by_cases hq : fd (C.1 20) (C.1 21) (nI j) σ e 0 = e ∧ z = e
      · rw [if_pos hq, if_pos ⟨hq.1, hq.2, by omega⟩]
      · rw [if_neg hq, if_neg (fun h => hq ⟨h.1, h.2.1⟩)]
    · rw [(e6 z hz).2.2]
      by_cases hq : z = fd (C.1 20) (C.1 21) (nI j) σ e 0
      · rw [if_pos hq, if_pos ⟨hq, by omega⟩]
      · rw [if_neg hq, if_neg (fun h => hq h.1)]
/-- the reference's loop: behind i samples -/
def mI (N0 N : fm_M) (t j e c I x k0 : Nat) (σ : Int32) (i : Nat) : Prop := N.2 = N0.2 ∧ (∀ q, ¬ (q = 174 ∨ q = 203 ∨ q = 206 ∨ q = 207 ∨ q = 208 ∨ q = 209) → N.1 q = N0.1 q) ∧ (∀ z, z ≠ 44 → N.1 174 z = N0.1 174 z) ∧ (∀ z, N.1 206 z = if z = t then nI (c + i * I) - nI x else N0.1 206 z) ∧ (∀ z, N.1 203 z = if z = j then N0.1 203 j + nI i else N0.1 203 z) ∧ N.1 174 44 = nI (if k0 = e ∧ e < 16 ∧ 0 < i then e + 1 else e) ∧ ∀ z, z < 16 → N.1 207 z = (if k0 = e ∧ z = e ∧ 0 < i then nI j else N0.1 207 z) ∧ N.1 208 z = (if k0 = e ∧ z = e ∧ 0 < i then σ else N0.1 208 z) ∧ N.1 209 z = if z = k0 ∧ 0 < i then (if k0 = e then 0 else N0.1 209 z) + nI i else N0.1 209 z
theorem m_loop (ht : t < 3) (hj : j < 78) (hI : N0.1 174 42 = nI I) (he6 : e ≤ 16) (hc : c ≤ 100000) (hx : x ≤ 100000) (hD : due c I x D) (hσ : ∀ N : fm_M, N.1 192 = N0.1 192 → N.1 195 = N0.1 195 → f_Mo_stackOf 174 (nI t) N = some (σ, N)) {k0 : Nat} (hk0 : k0 = fd (N0.1 207) (N0.1 208) (nI j) σ e 0) : ∀ (k i n : Nat) (N : fm_M), i + k = D → k < n → mI N0 N t j e c I x k0 σ i → ∃ N', h_Mo_report_51 n 174 (nI t) (nI j) N = some N' ∧ mI N0 N' t j e c I x k0 σ D
  | 0, i, n + 1, N, hi, _, h => by
    have : i = D := by omega
    subst this
    refine ⟨N, ?_, h⟩
    have hv : (nI (c + i * I) - nI x).toInt = ((c + i * I : Nat) : Int) - x := pk_sub_toInt (by have := hD.2.2.2.2; omega) (by omega)
    rw [h_Mo_report_51, gr_174_43, ob_e, ai_n an_206 ht (by decide), ob_e, h.2.2.2.1, if_pos rfl, if_pos (by rw [Int32.lt_iff_toInt_lt, hv]; show (0 : Int) < _; have := hD.2.1; omega)]
  | k + 1, i, n + 1, N, hi, hn, h => by
    have hk16 : k0 ≤ e := by have := fd_b (es := N0.1 207) (et := N0.1 208) (j := nI j) (σ := σ) e 0; omega
    have hlt := hD.1 i (by omega)
    have hv : (nI (c + i * I) - nI x).toInt = ((c + i * I : Nat) : Int) - x := pk_sub_toInt (by omega) (by omega)
    obtain ⟨m1, m2, m3, m4, m5, m6, m7⟩ := h
    generalize hB : fm_sI (fm_sI N 206 t (nI (c + (i + 1) * I) - nI x)) 203 j (N.1 203 j + 1) = B
    have b1 : ∀ q, q ≠ 203 → q ≠ 206 → B.1 q = N.1 q := fun q p1 p2 => by rw [← hB, row_ne p1, row_ne p2]
    have b2 : B.2 = N.2 := by rw [← hB]; rfl
    have b3 : ∀ z, B.1 206 z = if z = t then nI (c + (i + 1) * I) - nI x else N0.1 206 z := fun z => by
      rw [← hB, sI_r, if_neg (by omega), sI_r]
      by_cases hz : z = t
      · rw [if_pos ⟨rfl, hz⟩, if_pos hz]
      · rw [if_neg (fun h => hz h.2), if_neg hz, m4, if_neg hz]
    have b4 : ∀ z, B.1 203 z = if z = j then N0.1 203 j + nI (i + 1) else N0.1 203 z := fun z => by
      rw [← hB, sI_r]
      by_cases hz : z = j
      · rw [if_pos ⟨rfl, hz⟩, if_pos hz, m5, if_pos rfl, Int32.add_assoc, nI_1]
      · rw [if_neg (fun h => hz h.2), if_neg hz, sI_r, if_neg (by omega), m5, if_neg hz]
    generalize hE : (if k0 = e ∧ e < 16 ∧ 0 < i then e + 1 else e) = E at m6
    have hEd : (E = e + 1 ∧ k0 = e ∧ e < 16 ∧ 0 < i) ∨ (E = e ∧ ¬ (k0 = e ∧ e < 16 ∧ 0 < i)) := by
      rw [← hE]
      by_cases h9 : k0 = e ∧ e < 16 ∧ 0 < i
      · rw [if_pos h9]; exact Or.inl ⟨rfl, h9⟩
      · rw [if_neg h9]; exact Or.inr ⟨rfl, h9⟩
    have hE16 : E ≤ 16 := by omega
    have hfd : fd (B.1 207) (B.1 208) (nI j) σ E 0 = k0 := by
      rw [b1 207 (by decide) (by decide), b1 208 (by decide) (by decide), ← hE]
      by_cases hq : k0 = e ∧ e < 16 ∧ 0 < i
      · rw [if_pos hq]
        have := fd_n (es := N0.1 207) (et := N0.1 208) (es' := N.1 207) (et' := N.1 208) (j := nI j) (σ := σ) e 0 (by omega) (fun z _ hz => ⟨by rw [(m7 z (by omega)).1, if_neg (by omega)], by rw [(m7 z (by omega)).2.1, if_neg (by omega)]⟩) (by rw [Nat.zero_add, (m7 e hq.2.1).1, if_pos ⟨hq.1, rfl, hq.2.2⟩]) (by rw [Nat.zero_add, (m7 e hq.2.1).2.1, if_pos ⟨hq.1, rfl, hq.2.2⟩])
        rw [this]
        omega
      · rw [if_neg hq, hk0]
        exact fd_c e 0 (fun z _ hz => ⟨by rw [(m7 z (by omega)).1, if_neg (by omega)], by rw [(m7 z (by omega)).2.1, if_neg (by omega)]⟩)
    have hsm := e_smp (M := B) (j := nI j) (σ := σ) (e := E) (by rw [b1 174 (by decide) (by decide)]; exact m6) hE16 E 0 100000 (by omega) (by omega)
    rw [hfd] at hsm
    have key : mI N0 (smp B (nI j) σ E k0) t j e c I x k0 σ (i + 1) := by
      unfold smp
      by_cases hkE : k0 < E
      · rw [if_pos hkE]
        have n1 : ∀ q, q ≠ 209 → (fm_sI B 209 k0 (B.1 209 k0 + 1)).1 q = B.1 q := fun q hq => row_ne hq
        refine ⟨by show B.2 = _; rw [b2]; exact m1, fun q hq => by rw [n1 q (by omega), b1 q (by omega) (by omega), m2 q hq], fun z hz => by rw [n1 174 (by decide), b1 174 (by decide) (by decide), m3 z hz], fun z => by rw [n1 206 (by decide)]; exact b3 z, fun z => by rw [n1 203 (by decide)]; exact b4 z, ?_, fun z hz => ⟨?_, ?_, ?_⟩⟩
        · rw [n1 174 (by decide), b1 174 (by decide) (by decide), m6]
          rcases hEd with hEd | hEd
          · rw [if_pos ⟨hEd.2.1, hEd.2.2.1, by omega⟩, hEd.1]
          · rw [if_neg (by omega), hEd.1]
        · rw [n1 207 (by decide), b1 207 (by decide) (by decide), (m7 z hz).1]
          by_cases hq : k0 = e ∧ z = e
          · have hi0 : 0 < i := by omega
            rw [if_pos ⟨hq.1, hq.2, hi0⟩, if_pos ⟨hq.1, hq.2, by omega⟩]
          · rw [if_neg (fun h => hq ⟨h.1, h.2.1⟩), if_neg (fun h => hq ⟨h.1, h.2.1⟩)]
        · rw [n1 208 (by decide), b1 208 (by decide) (by decide), (m7 z hz).2.1]
          by_cases hq : k0 = e ∧ z = e
          · have hi0 : 0 < i := by omega
            rw [if_pos ⟨hq.1, hq.2, hi0⟩, if_pos ⟨hq.1, hq.2, by omega⟩]
          · rw [if_neg (fun h => hq ⟨h.1, h.2.1⟩), if_neg (fun h => hq ⟨h.1, h.2.1⟩)]
        · rw [sI_r, b1 209 (by decide) (by decide)]
          by_cases hz0 : z = k0
          · subst hz0
            rw [if_pos ⟨rfl, rfl⟩, if_pos ⟨rfl, by omega⟩, (m7 z hz).2.2]
            by_cases hi0 : 0 < i
            · rw [if_pos ⟨rfl, hi0⟩, Int32.add_assoc, nI_1]
            · have hi1 : i = 0 := by omega
              subst hi1
              rw [if_neg (fun h => absurd h.2 (by decide)), if_neg (show ¬ z = e by omega)]
              rfl
          · rw [if_neg (fun h => hz0 h.2), if_neg (fun h => hz0 h.1), (m7 z hz).2.2, if_neg (fun h => hz0 h.1)]
      · rw [if_neg hkE]
        have hEe : E = e ∧ k0 = e := by omega
        obtain ⟨hEe, hke⟩ := hEe
        by_cases h16 : E = 16
        · rw [if_pos h16]
          refine ⟨by rw [b2]; exact m1, fun q hq => by rw [b1 q (by omega) (by omega), m2 q hq], fun z hz => by rw [b1 174 (by decide) (by decide), m3 z hz], b3, b4, ?_, fun z hz => ⟨?_, ?_, ?_⟩⟩
          · rw [b1 174 (by decide) (by decide), m6, if_neg (by omega), hEe]
          · rw [b1 207 (by decide) (by decide), (m7 z hz).1, if_neg (by omega), if_neg (by omega)]
          · rw [b1 208 (by decide) (by decide), (m7 z hz).2.1, if_neg (by omega), if_neg (by omega)]
          · rw [b1 209 (by decide) (by decide), (m7 z hz).2.2, if_neg (by omega), if_neg (by omega)]
        · have hi0 : i = 0 := by omega
          subst hi0
          rw [if_neg h16]
          subst hEe
          refine ⟨by show B.2 = _; rw [b2]; exact m1, fun q hq => by rw [row_ne (by omega), row_ne (by omega), row_ne (by omega), row_ne (by omega), b1 q (by omega) (by omega), m2 q hq], fun z hz => by rw [sI_r, if_neg (by omega), sI_r, if_neg (by omega), sI_r, if_neg (by omega), sI_r, if_neg (by omega), b1 174 (by decide) (by decide), m3 z hz], fun z => by rw [row_ne (by decide), row_ne (by decide), row_ne (by decide), row_ne (by decide)]; exact b3 z, fun z => by rw [row_ne (by decide), row_ne (by decide), row_ne (by decide), row_ne (by decide)]; exact b4 z, ?_, fun z hz => ⟨?_, ?_, ?_⟩⟩
          · rw [sI_r, if_pos ⟨rfl, rfl⟩, if_pos ⟨hke, by omega, by decide⟩]
          · rw [sI_r, if_neg (by omega), sI_r, if_neg (by omega), sI_r, if_neg (by omega), sI_r]
            by_cases hze : z = E
            · rw [if_pos ⟨rfl, hze⟩, if_pos ⟨hke, hze, by decide⟩]
            · rw [if_neg (fun h => hze h.2), if_neg (fun h => hze h.2.1), b1 207 (by decide) (by decide), (m7 z hz).1, if_neg (fun h => absurd h.2.2 (by decide))]
          · rw [sI_r, if_neg (by omega), sI_r, if_neg (by omega), sI_r]
            by_cases hze : z = E
            · rw [if_pos ⟨rfl, hze⟩, if_pos ⟨hke, hze, by decide⟩]
            · rw [if_neg (fun h => hze h.2), if_neg (fun h => hze h.2.1), sI_r, if_neg (by omega), b1 208 (by decide) (by decide), (m7 z hz).2.1, if_neg (fun h => absurd h.2.2 (by decide))]
          · rw [sI_r, if_neg (by omega), sI_r]
            by_cases hze : z = E
            · rw [if_pos ⟨rfl, hze⟩, if_pos ⟨by omega, by decide⟩, if_pos hke]
              rfl
            · rw [if_neg (fun h => hze h.2), if_neg (by omega), sI_r, if_neg (by omega), sI_r, if_neg (by omega), b1 209 (by decide) (by decide), (m7 z hz).2.2, if_neg (fun h => absurd h.2 (by decide))]
    obtain ⟨N', g1, g2⟩ := m_loop ht hj hI he6 hc hx hD hσ hk0 k (i + 1) n (smp B (nI j) σ E k0) (by omega) (by omega) key
    refine ⟨N', ?_, g2⟩
    have hst := hσ B (by rw [b1 192 (by decide) (by decide), m2 192 (by omega)]) (by rw [b1 195 (by decide) (by decide), m2 195 (by omega)])
    have hB' : fm_sI (fm_sI N 206 t (nI (c + (i + 1) * I) - nI x)) 203 j ((fm_sI N 206 t (nI (c + (i + 1) * I) - nI x)).1 203 j + 1) = B := by rw [sI_r, if_neg (by omega)]; exact hB
    have hsm' : f_Mo_sample 174 (nI j) σ B = some (smp B (nI j) σ E k0) := hsm
    rw [h_Mo_report_51, gr_174_43, ob_e, ai_n an_206 ht (by decide), ob_e, m4, if_pos rfl, if_neg (by rw [Int32.lt_iff_toInt_lt, hv]; show ¬ (0 : Int) < _; omega), ob_e, ob_e, ai_n an_206 ht (by decide), ob_e, m4, if_pos rfl, gi_e cl_174, ob_e, m3 42 (by decide), hI, rsub, show c + i * I + I = c + (i + 1) * I by rw [Nat.add_mul, Nat.one_mul, Nat.add_assoc], si_n an_206 ht (by decide), ob_e, gr_174_39, ob_e, ai_n an_203 (by omega) (by decide), ob_e, si_n an_203 (by omega) (by decide), ob_e, ck_e cl_174, ob_e, hB', hst, bd_e, ob_e, hsm', ob_e]
    exact g1
/-- what the reference's rows are behind a report -/
theorem m_report (ht : t < 3) (hj : j < 78) (hI : N.1 174 42 = nI I) (he : N.1 174 44 = nI e) (he6 : e ≤ 16) (hc : c ≤ 100000) (hx : x ≤ 100000) (hD : due c I x D) (hcd : N.1 206 t = nI c) (k4 : N.2.1 201 (3 * j + t) = lN o) (k5 : N.2.1 202 (3 * j + t) = lN b) (hσ : ∀ N1 : fm_M, N1.1 192 = N.1 192 → N1.1 195 = N.1 195 → f_Mo_stackOf 174 (nI t) N1 = some (σ, N1)) : ∃ N0 N', f_Mo_report 174 (nI t) (nI j) (nI x) N = some N' ∧ N0.1 = N.1 ∧ N0.2.2 = N.2.2 ∧ (∀ q, ¬ (q = 201 ∨ q = 202) → N0.2.1 q = N.2.1 q) ∧ (∀ z, N0.2.1 201 z = if z = 3 * j + t then lN (o + 1) else N.2.1 201 z) ∧ (∀ z, N0.2.1 202 z = if z = 3 * j + t then lN (b + x) else N.2.1 202 z) ∧ mI N0 N' t j e c I x (fd (N.1 207) (N.1 208) (nI j) σ e 0) σ D := by
  generalize hN0 : fm_sJ (fm_sJ N 201 (3 * j + t) (lN (o + 1))) 202 (3 * j + t) (lN (b + x)) = N0
  have r1 : N0.1 = N.1 := by rw [← hN0]; rfl
  have hJ : (3 * nI j) + nI t = nI (3 * j + t) := by rw [show (3 : Int32) * nI j = nI (3 * j) from nI_mul 3 j, nI_add]
  have hm0 : mI N0 (fm_sI N0 206 t (nI c - nI x)) t j e c I x (fd (N.1 207) (N.1 208) (nI j) σ e 0) σ 0 := by
    refine ⟨rfl, fun q hq => row_ne (by omega), fun z hz => by rw [row_ne (by decide)], fun z => ?_, fun z => ?_, ?_, fun z hz => ⟨?_, ?_, ?_⟩⟩
    · rw [sI_r, show c + 0 * I = c by omega]
      simp
    · rw [row_ne (by decide)]
      by_cases hz : z = j
      · rw [if_pos hz, hz]
        exact (Int32.add_zero _).symm
      · rw [if_neg hz]
    · rw [row_ne (by decide), if_neg (fun h => absurd h.2.2 (by decide)), r1]; exact he
    · rw [row_ne (by decide), if_neg (fun h => absurd h.2.2 (by decide))]
    · rw [row_ne (by decide), if_neg (fun h => absurd h.2.2 (by decide))]
    · rw [row_ne (by decide), if_neg (fun h => absurd h.2 (by decide))]
  obtain ⟨N', g1, g2⟩ := m_loop (N0 := N0) (t := t) (j := j) (I := I) (e := e) (c := c) (x := x) (D := D) (σ := σ) ht hj (by rw [r1]; exact hI) he6 hc hx hD (fun N1 h1 h2 => hσ N1 (by rw [h1, r1]) (by rw [h2, r1])) (by rw [r1]) D 0 100000 _ (by omega) (by have := hD.2.2.2.1; omega) hm0
  refine ⟨N0, N', ?_, r1, by rw [← hN0]; rfl, fun q hq => ?_, fun z => ?_, fun z => ?_, g2⟩
  · unfold f_Mo_report
    rw [gr_174_37, ob_e, hJ, aj_n an_201 (by omega) (by decide), ob_e, k4, lN_1, sj_n an_201 (by omega) (by decide), ob_e, gr_174_38, ob_e, ob_e, aj_n an_202 (by omega) (by decide), ob_e, sJ_r, if_neg (by omega), k5, nI_l (by omega), lN_add, sj_n an_202 (by omega) (by decide), ob_e, gr_174_43, ob_e, ob_e, hN0, ai_n an_206 ht (by decide), ob_e, show N0.1 206 t = nI c by rw [r1]; exact hcd, si_n an_206 ht (by decide), ob_e]
    exact g1
  · rw [← hN0]
    funext z
    rw [sJ_r, if_neg (by omega), sJ_r, if_neg (by omega)]
  · rw [← hN0, sJ_r, if_neg (by omega), sJ_r]
    simp
  · rw [← hN0, sJ_r]
    by_cases hz : z = 3 * j + t
    · rw [if_pos ⟨rfl, hz⟩, if_pos hz]
    · rw [if_neg (fun h => hz h.2), if_neg hz, sJ_r, if_neg (by omega)]
end REP
