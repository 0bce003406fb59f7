/-! define -/
section PD
variable {n k s h l r m : Nat} {M M2 Mc Mm : fm_M} {P : Nat → Nat → Prop} {Ps : Nat → Nat → Nat → Prop}
theorem WF_c {O A B E H O' A' B' E' H' : Nat → Int32} (hw : WF O A B E H l r k n s P) (h1 : ∀ i, i < l → O' i = O i ∧ A' i = A i) (h2 : ∀ j, j < r → B' j = B j ∧ E' j = E j ∧ H' j = H j) : WF O' A' B' E' H' l r k n s P := by
  obtain ⟨w0, w1, w2, w3, w4, w5⟩ := hw
  refine ⟨w0, fun p hp => by rw [(h1 p hp).1, (h1 p hp).2]; exact w1 p hp, fun j hj => by rw [(h2 j hj).1, (h2 j hj).2.1, (h2 j hj).2.2]; exact w2 j hj, by rw [(h1 (l - 1) (by omega)).1]; exact w3, w4, fun p d hP => ?_⟩
  obtain ⟨f1, f2, f3, f4, f5, f6, f7⟩ := w5 p d hP
  have e1 := (h1 p f1).1
  have e2 := (h1 p f1).2
  have hnx : nx O' l p = nx O l p := by
    unfold nx
    rw [e1]
    by_cases hp1 : p + 1 < l
    · rw [(h1 (p + 1) hp1).1]
    · rw [if_neg (fun h => hp1 h.2.1), if_neg (fun h => hp1 h.2.1)]
  unfold flow
  rw [e1, e2, hnx]
  exact ⟨f1, f2, f3, f4, f5, f6, fun j hj => by rw [(h2 j hj).1, (h2 j hj).2.1, (h2 j hj).2.2]; exact f7 j hj⟩
theorem Rx_d0 (hx : Rx n k s h Ps M M) (c1 : ∀ q, q < 171 → q ≠ 0 → q ≠ 165 → M2.1 q = M.1 q) (c0 : ∀ z, z ≠ 8 → M2.1 0 z = M.1 0 z) (c2 : ∀ q, q < 210 → M2.2.1 q = M.2.1 q ∧ M2.2.2.1 q = M.2.2.1 q) (c5 : M2.1 165 5 = 0) (c6 : M2.1 165 6 = 0) (m1 : ∀ q, 175 ≤ q → q < 210 → q ≠ 191 → M2.1 q = M.1 q) (m9 : ∀ z, ¬ (z = 0 ∨ z = 4 ∨ z = 7 ∨ z = 10) → M2.1 174 z = M.1 174 z) (m4 : M2.1 174 4 = 0) (m7 : M2.1 174 7 = 0) (he : M2.1 0 8 = M2.1 174 10) : Rx n k s h Ps M2 M2 := by
  obtain ⟨xa, xb, xc, xd, xe, xf, xg, xh, xi⟩ := hx
  obtain ⟨a1, a2, a3, a4, a5, a6⟩ := id xa
  refine ⟨⟨a1, by rw [c0 7 (by decide)]; exact a2, by rw [m9 9 (by omega)]; exact a3, he, by rw [c0 9 (by decide), m9 11 (by omega)]; exact a5, by rw [c0 9 (by decide)]; exact a6⟩, RB_c xb (c1 2 (by omega) (by omega) (by omega)) (c1 3 (by omega) (by omega) (by omega)) (m9 1 (by omega)) (m1 175 (by omega) (by omega) (by omega)) (m1 176 (by omega) (by omega) (by omega)), ⟨0, 0, by omega, by omega, ⟨c5, m4, c6, m7, fun i hi => absurd hi (Nat.not_lt_zero _), fun i hi => absurd hi (Nat.not_lt_zero _)⟩, fun i hi => absurd hi (Nat.not_lt_zero _)⟩, RD_c xd a1 (fun q h1 h2 => c1 q (by omega) (by omega) (by omega)) (fun q h1 h2 => m1 q (by omega) (by omega) (by omega)), RX_c xe (fun m hm => by rw [c1 (24 + 15 * m) (by omega) (by omega) (by omega)]) (m1 180 (by omega) (by omega) (by omega)), RE_c xf (c0 9 (by decide)) (c1 7 (by omega) (by omega) (by omega)) (fun q h1 h2 => ⟨c1 q (by omega) (by omega) (by omega), c2 q (by omega)⟩) (m9 23 (by omega)) (m9 42 (by omega)) (m9 44 (by omega)) (fun q h1 h2 => ⟨m1 q (by omega) (by omega) (by omega), c2 q (by omega)⟩), RF_c xg (c1 5 (by omega) (by omega) (by omega)) (c1 6 (by omega) (by omega) (by omega)) (m9 35 (by omega)) (m1 200 (by omega) (by omega) (by omega)), RG_c xh (c1 1 (by omega) (by omega) (by omega)) (m9 33 (by omega)) (m9 34 (by omega)), RS_c xi a1 (c0 9 (by decide)) (fun m hm => c1 _ (by omega) (by omega) (by omega)) (fun q h1 h2 => c1 q (by omega) (by omega) (by omega)) (fun q h1 h2 => m1 q (by omega) (by omega) (by omega))⟩
theorem Rx_d1 (hx : Rx n k s h Ps M M) (hw0 : M.1 0 9 = 0) (hn5 : n < 6) (hl : l ≤ 24) (hr : r ≤ 2) (hw : WF (M.1 169) (M.1 170) (M.1 166) (M.1 167) (M.1 168) l r k n 0 P) (c1 : ∀ q, q < 171 → q ≠ 0 → q ≠ 165 → ¬ (25 + 15 * n ≤ q ∧ q ≤ 37 + 15 * n) → M2.1 q = M.1 q) (c0 : ∀ z, z ≠ 7 → z ≠ 8 → M2.1 0 z = M.1 0 z) (c7 : M2.1 0 7 = nI (n + 1)) (c2 : ∀ q, q < 210 → M2.2.1 q = M.2.1 q ∧ M2.2.2.1 q = M.2.2.1 q) (c5 : M2.1 165 5 = 0) (c6 : M2.1 165 6 = 0) (cb : ∀ q, (q = 25 + 15 * n ∨ q = 31 + 15 * n) → M2.1 q 5 = nI l ∧ M2.1 q 6 = nI r ∧ (∀ j, j < l → M2.1 (q + 4) j = M.1 169 j ∧ M2.1 (q + 5) j = M.1 170 j) ∧ ∀ j, j < r → M2.1 (q + 1) j = M.1 166 j ∧ M2.1 (q + 2) j = M.1 167 j ∧ M2.1 (q + 3) j = M.1 168 j) (cs : ∀ j, j < 24 → M2.1 (37 + 15 * n) j = -1)
    (m1 : ∀ q, 175 ≤ q → q < 210 → q ≠ 191 → ¬ (181 ≤ q ∧ q ≤ 190) → M2.1 q = M.1 q) (m9 : ∀ z, ¬ (z = 0 ∨ z = 4 ∨ z = 7 ∨ z = 9 ∨ z = 10) → M2.1 174 z = M.1 174 z) (m4 : M2.1 174 4 = 0) (m7 : M2.1 174 7 = 0) (mn : M2.1 174 9 = nI (n + 1)) (he : M2.1 0 8 = M2.1 174 10) (n1 : ∀ z, z ≠ n → M2.1 181 z = M.1 181 z ∧ M2.1 184 z = M.1 184 z ∧ M2.1 186 z = M.1 186 z) (n2 : M2.1 181 n = nI l) (n3 : M2.1 184 n = nI r) (n4 : M2.1 186 n = nI l) (n5 : ∀ z, ¬ (24 * n ≤ z ∧ z < 24 * n + 24) → M2.1 182 z = M.1 182 z ∧ M2.1 183 z = M.1 183 z ∧ M2.1 190 z = M.1 190 z) (n6 : ∀ z, ¬ (28 * n ≤ z ∧ z < 28 * n + 28) → M2.1 187 z = M.1 187 z ∧ M2.1 188 z = M.1 188 z) (n7 : ∀ z, ¬ (6 * n ≤ z ∧ z < 6 * n + 6) → M2.1 185 z = M.1 185 z ∧ M2.1 189 z = M.1 189 z) (n8 : ∀ j, j < l → M2.1 182 (24 * n + j) = M.1 169 j ∧ M2.1 183 (24 * n + j) = M.1 170 j ∧ M2.1 190 (24 * n + j) = -1 ∧ M2.1 187 (28 * n + j) = M.1 169 j ∧ M2.1 188 (28 * n + j) = M.1 170 j) (n9 : ∀ j, j < r → (M2.1 185 (6 * n + 3 * j) = M.1 166 j ∧ M2.1 185 (6 * n + 3 * j + 1) = M.1 167 j ∧ M2.1 185 (6 * n + 3 * j + 2) = M.1 168 j) ∧ M2.1 189 (6 * n + 3 * j) = M.1 166 j ∧ M2.1 189 (6 * n + 3 * j + 1) = M.1 167 j ∧ M2.1 189 (6 * n + 3 * j + 2) = M.1 168 j) : Rx (n + 1) k s h (fun x => if x = n then P else Ps x) M2 M2 := by
  obtain ⟨xa, xb, xc, xd, xe, xf, xg, xh, xi⟩ := hx
  obtain ⟨a1, a2, a3, a4, a5, a6⟩ := id xa
  have hs0 : s = 0 := xf.2.2.2.1 hw0
  refine ⟨⟨by omega, c7, mn, he, by rw [c0 9 (by decide) (by decide), m9 11 (by omega)]; exact a5, by rw [c0 9 (by decide) (by decide)]; exact a6⟩, RB_c xb (c1 2 (by omega) (by omega) (by omega) (by omega)) (c1 3 (by omega) (by omega) (by omega) (by omega)) (m9 1 (by omega)) (m1 175 (by omega) (by omega) (by omega) (by omega)) (m1 176 (by omega) (by omega) (by omega) (by omega)), ⟨0, 0, by omega, by omega, ⟨c5, m4, c6, m7, fun i hi => absurd hi (Nat.not_lt_zero _), fun i hi => absurd hi (Nat.not_lt_zero _)⟩, fun i hi => absurd hi (Nat.not_lt_zero _)⟩, fun m hm => ?_, RX_c xe (fun m hm => by rw [c1 (24 + 15 * m) (by omega) (by omega) (by omega) (by omega)]) (m1 180 (by omega) (by omega) (by omega) (by omega)), RE_c xf (c0 9 (by decide) (by decide)) (c1 7 (by omega) (by omega) (by omega) (by omega)) (fun q h1 h2 => ⟨c1 q (by omega) (by omega) (by omega) (by omega), c2 q (by omega)⟩) (m9 23 (by omega)) (m9 42 (by omega)) (m9 44 (by omega)) (fun q h1 h2 => ⟨m1 q (by omega) (by omega) (by omega) (by omega), c2 q (by omega)⟩), RF_c xg (c1 5 (by omega) (by omega) (by omega) (by omega)) (c1 6 (by omega) (by omega) (by omega) (by omega)) (m9 35 (by omega)) (m1 200 (by omega) (by omega) (by omega) (by omega)), RG_c xh (c1 1 (by omega) (by omega) (by omega) (by omega)) (m9 33 (by omega)) (m9 34 (by omega)), fun t ht => ?_⟩
  · by_cases hmn : m = n
    · subst hmn
      show RM m k s M2 M2 (if m = m then P else Ps m)
      rw [if_pos rfl, hs0]
      obtain ⟨o1, o2, o3, o4⟩ := cb (25 + 15 * m) (Or.inl rfl)
      obtain ⟨w1, w2, w3, w4⟩ := cb (31 + 15 * m) (Or.inr rfl)
      refine ⟨l, r, l, hl, hr, by omega, ⟨o1, n2, o2, n3, fun i hi => ⟨by rw [(o3 i hi).1, (n8 i hi).1], by rw [(o3 i hi).2, (n8 i hi).2.1]⟩, fun i hi => ⟨by rw [(o4 i hi).1, (n9 i hi).1.1], by rw [(o4 i hi).2.1, (n9 i hi).1.2.1], by rw [(o4 i hi).2.2, (n9 i hi).1.2.2]⟩⟩, ⟨w1, n4, w2, n3, fun i hi => ⟨by rw [(w3 i hi).1, (n8 i hi).2.2.2.1], by rw [(w3 i hi).2, (n8 i hi).2.2.2.2]⟩, fun i hi => ⟨by rw [(w4 i hi).1, (n9 i hi).2.1], by rw [(w4 i hi).2.1, (n9 i hi).2.2.1], by rw [(w4 i hi).2.2, (n9 i hi).2.2.2]⟩⟩, ⟨P, WF_c hw o3 o4⟩, WF_c hw w3 w4, fun i hi => ⟨by rw [cs i (by omega), (n8 i hi).2.2.1], Or.inl (cs i (by omega))⟩⟩
    · show RM m k s M2 M2 (if m = n then P else Ps m)
      rw [if_neg hmn]
      obtain ⟨l', r', wl, b1, b2, b3, b4, b5, ⟨P0, b6⟩, b7, b8⟩ := xd m (by omega)
      have hc : ∀ q, 25 + 15 * m ≤ q → q ≤ 37 + 15 * m → M2.1 q = M.1 q := fun q h1 h2 => c1 q (by omega) (by omega) (by omega) (by omega)
      obtain ⟨d1, d2, d3, d4, d5, d6⟩ := b4
      obtain ⟨e1, e2, e3, e4, e5, e6⟩ := b5
      refine ⟨l', r', wl, b1, b2, b3, ⟨by rw [hc _ (by omega) (by omega)]; exact d1, by rw [(n1 m hmn).1]; exact d2, by rw [hc _ (by omega) (by omega)]; exact d3, by rw [(n1 m hmn).2.1]; exact d4, fun i hi => ?_, fun i hi => ?_⟩, ⟨by rw [hc _ (by omega) (by omega)]; exact e1, by rw [(n1 m hmn).2.2]; exact e2, by rw [hc _ (by omega) (by omega)]; exact e3, by rw [(n1 m hmn).2.1]; exact e4, fun i hi => ?_, fun i hi => ?_⟩, ⟨P0, WQ_r b6 (fun z h1 h2 => hc z (by omega) (by omega))⟩, WQ_r b7 (fun z h1 h2 => hc z (by omega) (by omega)), fun i hi => ?_⟩
      · rw [hc (25 + 15 * m + 4) (by omega) (by omega), hc (25 + 15 * m + 5) (by omega) (by omega), (n5 _ (by omega)).1, (n5 _ (by omega)).2.1]
        exact d5 i hi
      · rw [hc (25 + 15 * m + 1) (by omega) (by omega), hc (25 + 15 * m + 2) (by omega) (by omega), hc (25 + 15 * m + 3) (by omega) (by omega), (n7 _ (by omega)).1, (n7 _ (by omega)).1, (n7 _ (by omega)).1]
        exact d6 i hi
      · rw [hc (31 + 15 * m + 4) (by omega) (by omega), hc (31 + 15 * m + 5) (by omega) (by omega), (n6 _ (by omega)).1, (n6 _ (by omega)).2]
        exact e5 i hi
      · rw [hc (31 + 15 * m + 1) (by omega) (by omega), hc (31 + 15 * m + 2) (by omega) (by omega), hc (31 + 15 * m + 3) (by omega) (by omega), (n7 _ (by omega)).2, (n7 _ (by omega)).2, (n7 _ (by omega)).2]
        exact e6 i hi
      · rw [hc (37 + 15 * m) (by omega) (by omega), (n5 _ (by omega)).2.2]
        exact b8 i hi
  · obtain ⟨t1, a, t2, t3, t4, t5, t6, t7⟩ := xi t ht
    have ha : a = 0 := by
      rcases Nat.eq_zero_or_pos a with h9 | h9
      · exact h9
      · have := (t6 h9).2
        rw [hw0] at this
        exact absurd this (by decide)
    subst ha
    have r1 := c1 (114 + 17 * t) (by omega) (by omega) (by omega) (by omega)
    exact ⟨by rw [r1]; exact t1, 0, by decide, by rw [r1]; exact t3, by rw [m1 192 (by omega) (by omega) (by omega) (by omega)]; exact t4, fun _ => by rw [r1, m1 193 (by omega) (by omega) (by omega) (by omega), m1 194 (by omega) (by omega) (by omega) (by omega)]; exact t5 rfl, fun h => absurd h (Nat.not_lt_zero _), fun f hf => absurd hf (Nat.not_lt_zero _)⟩
/-- a refused one, the reference's end -/
theorem e_202 {v fp : Int32} {N : fm_M} (hv : ¬ v ≤ 0) (hv0 : ¬ v = 0) : j_Mo_define_59 174 174 v (fm_sI N 174 10 fp) = some (0, fm_sI (fm_sI (fm_sI (fm_sI N 174 10 fp) 174 0 v) 174 4 0) 174 7 0) := by
  unfold j_Mo_define_59 j_Mo_define_202
  rw [pi_e cl_174, ob_e, gi_e cl_174, ob_e, show (fm_sI (fm_sI N 174 10 fp) 174 0 v).1 174 0 = v from rfl, if_neg hv0, pi_e cl_174, ob_e, pi_e cl_174, ob_e, gi_e cl_174, ob_e, show (fm_sI (fm_sI (fm_sI (fm_sI N 174 10 fp) 174 0 v) 174 4 0) 174 7 0).1 174 0 = v by rw [sI_r, if_neg (by omega), sI_r, if_neg (by omega), sI_r, if_pos ⟨rfl, rfl⟩], if_neg hv]
end PD
theorem p_define {M : fm_M} (hR : Rel M M) : ∃ M', l_case4 M = some M' ∧ Rel M' M' := by
  obtain ⟨n, k, s, h, Ps, hx⟩ := hR
  obtain ⟨hn6, hn, hmn, -, hw, hw2⟩ := hx.1
  obtain ⟨l, r, l24, r2, ⟨d1, d2, d3, d4, d5, d6⟩, d7⟩ := hx.2.2.1
  obtain ⟨k6, k1, k2, -⟩ := hx.2.1
  generalize hMa : fm_sI M 0 8 (-1) = Ma
  have ra : ∀ q, q ≠ 0 → Ma.1 q = M.1 q := fun q hq => by rw [← hMa]; exact row_ne hq
  have ra0 : ∀ z, z ≠ 8 → Ma.1 0 z = M.1 0 z := fun z hz => by rw [← hMa, sI_r, if_neg (fun h => hz h.2)]
  have ra2 : Ma.2 = M.2 := by rw [← hMa]; rfl
  have hDR : ∀ N : fm_M, (∀ q, 174 ≤ q → q < 210 → N.1 q = M.1 q) → DR n k l r Ma N := fun N hN => ⟨hn6, k6, l24, r2, by rw [ra 165 (by decide)]; exact d1, by rw [ra 165 (by decide)]; exact d3, by rw [ra 2 (by decide)]; exact k1, by rw [hN 174 (by decide) (by decide)]; exact d2, by rw [hN 174 (by decide) (by decide)]; exact d4, by rw [hN 174 (by decide) (by decide)]; exact k2, by rw [hN 174 (by decide) (by decide)]; exact hmn, fun i hi => by
    rw [ra 169 (by decide), ra 170 (by decide), hN 177 (by decide) (by decide), hN 178 (by decide) (by decide)]
    have := d5 i hi
    rw [Nat.zero_add] at this
    exact ⟨d7 i hi, this.1.symm, this.2.symm⟩, fun i hi => by
    rw [ra 166 (by decide), ra 167 (by decide), ra 168 (by decide), hN 179 (by decide) (by decide)]
    have := d6 i hi
    rw [Nat.zero_add] at this
    exact ⟨this.1.symm, this.2.1.symm, this.2.2.symm⟩⟩
  -- a refused define
  have bad : ∀ (v fp : Int32) (Mb Nb : fm_M), (v = 1 ∨ v = 2) → (∀ q, ¬ (q = 0 ∨ q = 171 ∨ q = 172 ∨ q = 173) → Mb.1 q = M.1 q) → (∀ z, z ≠ 8 → Mb.1 0 z = M.1 0 z) → Mb.2 = M.2 → Mb.1 0 8 = fp → f_Law_define 0 210 M = some (v, fm_sI (fm_sI Mb 165 5 0) 165 6 0) → (∀ q, q ≠ 191 → Nb.1 q = (fm_sI (fm_sI Mb 165 5 0) 165 6 0).1 q) → Nb.2 = Mb.2 → f_Mo_define 174 (fm_sI (fm_sI Mb 165 5 0) 165 6 0) = j_Mo_define_59 174 174 v (fm_sI Nb 174 10 fp) → ∃ M', l_case4 M = some M' ∧ Rel M' M' := by
    intro v fp Mb Nb hv b1 b0 b2 b8 hC n1 n2 hD
    have hv1 : ¬ v ≤ 0 := by rcases hv with rfl | rfl <;> decide
    have hv0 : ¬ v = 0 := by rcases hv with rfl | rfl <;> decide
    rw [e_202 hv1 hv0] at hD
    generalize hM2 : fm_sI (fm_sI (fm_sI (fm_sI Nb 174 10 fp) 174 0 v) 174 4 0) 174 7 0 = M2 at hD
    have f1 : ∀ q, q ≠ 174 → M2.1 q = Nb.1 q := fun q hq => by rw [← hM2, row_ne hq, row_ne hq, row_ne hq, row_ne hq]
    have f2 : ∀ z, ¬ (z = 0 ∨ z = 4 ∨ z = 7 ∨ z = 10) → M2.1 174 z = Nb.1 174 z := fun z hz => by rw [← hM2, sI_r, if_neg (by omega), sI_r, if_neg (by omega), sI_r, if_neg (by omega), sI_r, if_neg (by omega)]
    have g1 : ∀ q, ¬ (q = 174 ∨ q = 191 ∨ q = 165 ∨ q = 0 ∨ q = 171 ∨ q = 172 ∨ q = 173) → M2.1 q = M.1 q := fun q hq => by rw [f1 q (by omega), n1 q (by omega), row_ne (by omega), row_ne (by omega), b1 q (by omega)]
    have h10 : M2.1 174 10 = fp := by rw [← hM2, sI_r, if_neg (by omega), sI_r, if_neg (by omega), sI_r, if_neg (by omega), sI_r, if_pos ⟨rfl, rfl⟩]
    have h00 : M2.1 174 0 = v := by rw [← hM2, sI_r, if_neg (by omega), sI_r, if_neg (by omega), sI_r, if_pos ⟨rfl, rfl⟩]
    have h04 : M2.1 174 4 = 0 := by rw [← hM2, sI_r, if_neg (by omega), sI_r, if_pos ⟨rfl, rfl⟩]
    have h07 : M2.1 174 7 = 0 := by rw [← hM2, sI_r, if_pos ⟨rfl, rfl⟩]
    have hr0 : M2.1 0 = Mb.1 0 := by rw [f1 0 (by decide), n1 0 (by decide), row_ne (by decide), row_ne (by decide)]
    refine ⟨M2, ?_, n, k, s, h, Ps, Rx_d0 hx (fun q h1 h2 h3 => g1 q (by omega)) (fun z hz => by rw [hr0]; exact b0 z hz) (fun q hq => ?_) ?_ ?_ (fun q h1 h2 h3 => g1 q (by omega)) (fun z hz => ?_) h04 h07 (by rw [hr0, b8, h10])⟩
    · unfold l_case4
      rw [hC, bd_e, ck_e cl_174, ob_e, hD, bd_e]
      exact tail_i h00 (fun h9 => absurd h9 hv0)
    · have : M2.2 = M.2 := by
        rw [← hM2]
        show Nb.2 = M.2
        rw [n2, b2]
      rw [this]
      exact ⟨rfl, rfl⟩
    · rw [f1 165 (by decide), n1 165 (by decide), sI_r, if_neg (by omega), sI_r, if_pos ⟨rfl, rfl⟩]
    · rw [f1 165 (by decide), n1 165 (by decide), sI_r, if_pos ⟨rfl, rfl⟩]
    · rw [f2 z hz, n1 174 (by decide), row_ne (by decide), row_ne (by decide), b1 174 (by omega)]
  by_cases hroom : M.1 0 9 = 0 ∧ n < 6
  · obtain ⟨hw0, hn5⟩ := hroom
    obtain ⟨fp, Mb, -, p1, -, p3, p4, p5, -, -⟩ := fault2 (hDR M (fun _ _ _ => rfl))
    have c6 : nI n < 6 := nI_lt (b := 6) hn5 (by decide)
    have q0 : Ma.1 0 9 = 0 := by rw [ra0 9 (by decide)]; exact hw0
    have q7 : Ma.1 0 7 = nI n := by rw [ra0 7 (by decide)]; exact hn
    have mb1 : ∀ q, ¬ (q = 0 ∨ q = 171 ∨ q = 172 ∨ q = 173) → (fm_sI Mb 0 8 fp).1 q = M.1 q := fun q hq => by rw [row_ne (by omega), p5 q (by omega), ra q (by omega)]
    have mb0 : ∀ z, z ≠ 8 → (fm_sI Mb 0 8 fp).1 0 z = M.1 0 z := fun z hz => by rw [sI_r, if_neg (fun h => hz h.2), p5 0 (by omega), ra0 z hz]
    have mb2 : (fm_sI Mb 0 8 fp).2 = M.2 := by show Mb.2 = _; rw [p4, ra2]
    have mb8 : (fm_sI Mb 0 8 fp).1 0 8 = fp := by rw [sI_r, if_pos ⟨rfl, rfl⟩]
    have cpre : f_AP_define 0 M = if fp = -1 then (ar 4 (nI n)).bind fun q135 => (ck q135 6).bind fun _ => (f_Method_become q135 165 (fm_sI Mb 0 8 fp)).bind fun M140 => (f_Code_clear 165 M140).bind fun M145 => (gi 0 9 7 M145).bind fun x147 => (pi 0 9 7 (x147 + 1) M145).bind fun M149 => (gi 0 9 7 M149).bind fun x151 => some (.inl (x151 - 1), M149) else some (.inr "java/lang/IllegalArgumentException", fm_sI (fm_sI (fm_sI Mb 0 8 fp) 165 5 0) 165 6 0) := by
      unfold f_AP_define
      rw [pi_e cl_0, ob_e, hMa, gi_e cl_0, ob_e, q0, if_pos rfl, gi_e cl_0, ob_e, q7, if_pos c6, gr_0_6, ob_e, gr_0_5, ob_e, gr_0_1, ob_e, ob_e, ck_e cl_171, ob_e, p1, bd_e, pi_e cl_0, ob_e, gi_e cl_0, ob_e, mb8, gr_0_2, ob_e, gi_e cl_0, ob_e, mb0 7 (by decide), hn, ob_e, ck_e cl_165, ob_e, e_cclr cd_d, ob_e]
      rfl
    by_cases hfp : fp = -1
    · subst hfp
      obtain ⟨P, hP⟩ : ∃ P, WF (M.1 169) (M.1 170) (M.1 166) (M.1 167) (M.1 168) l r k n 0 P := by
        rcases p3 with ⟨-, P, hP⟩ | ⟨h9, -⟩
        · rw [ra 169 (by decide), ra 170 (by decide), ra 166 (by decide), ra 167 (by decide), ra 168 (by decide)] at hP
          exact ⟨P, hP⟩
        · exact absurd rfl h9
      obtain ⟨Mn, e1, e2, e3, e4, e5⟩ := c_become (M := fm_sI Mb 0 8 (-1)) hn5 l24 r2 (by rw [mb1 165 (by omega)]; exact d1) (by rw [mb1 165 (by omega)]; exact d3)
      rw [mb1 169 (by omega), mb1 170 (by omega), mb1 166 (by omega), mb1 167 (by omega), mb1 168 (by omega)] at e4
      generalize hM1 : fm_sI (fm_sI (fm_sI Mn 165 5 0) 165 6 0) 0 7 (nI (n + 1)) = M1
      have u1 : ∀ q, ¬ (q = 0 ∨ q = 165) → M1.1 q = Mn.1 q := fun q hq => by rw [← hM1, row_ne (by omega), row_ne (by omega), row_ne (by omega)]
      have u0 : ∀ z, M1.1 0 z = if z = 7 then nI (n + 1) else (fm_sI Mb 0 8 (-1)).1 0 z := fun z => by
        rw [← hM1, sI_r, row_ne (by decide), row_ne (by decide), e3 0 (by omega)]
        simp
      have u5 : M1.1 165 5 = 0 := by rw [← hM1, row_ne (by decide), sI_r, if_neg (by omega), sI_r, if_pos ⟨rfl, rfl⟩]
      have u6 : M1.1 165 6 = 0 := by rw [← hM1, row_ne (by decide), sI_r, if_pos ⟨rfl, rfl⟩]
      have u2 : M1.2 = M.2 := by
        rw [← hM1]
        show Mn.2 = M.2
        rw [e2]
        exact mb2
      have u174 : ∀ q, 174 ≤ q → M1.1 q = M.1 q := fun q hq => by rw [u1 q (by omega), e3 q (by omega), mb1 q (by omega)]
      have hC : f_Law_define 0 210 M = some (0, fm_sJ M1 210 0 (nI n).toInt64) := by
        have g7 : (fm_sI (fm_sI Mn 165 5 0) 165 6 0).1 0 7 = nI n := by rw [row_ne (by decide), row_ne (by decide), e3 0 (by omega), mb0 7 (by decide)]; exact hn
        have g7' : M1.1 0 7 = nI (n + 1) := by rw [u0, if_pos rfl]
        unfold f_Law_define
        rw [ck_e cl_0, ob_e, cpre, if_pos rfl, ar_m n hn5, ob_e, ck_e (cl_m n hn5), ob_e, e1, ob_e, e_cclr cd_d, ob_e, gi_e cl_0, ob_e, g7, nI_1, pi_e cl_0, ob_e, hM1, gi_e cl_0, ob_e, g7', nI_pred, lt_l, out_w, ob_e]
      generalize hMo : fm_sJ M1 210 0 (nI n).toInt64 = Mo at hC
      have o1 : Mo.1 = M1.1 := by rw [← hMo]; rfl
      have o2 : ∀ q, q < 210 → Mo.2.1 q = M.2.1 q := fun q hq => by
        rw [← hMo, ← u2]
        funext z
        rw [sJ_r, if_neg (by omega)]
      have o3 : Mo.2.2 = M.2.2 := by rw [← hMo]; show M1.2.2 = _; rw [u2]
      have o4 : Mo.2.1 210 0 = (nI n).toInt64 := by rw [← hMo, sJ_r, if_pos ⟨rfl, rfl⟩]
      obtain ⟨fp', Mb', Nb, s1, s2, -, -, -, s6, s7⟩ := fault2 (hDR Mo (fun q h1 h2 => by rw [o1, u174 q h1]))
      have hfe : fp' = -1 := (congrArg Prod.fst (Option.some.inj (p1.symm.trans s1))).symm
      subst hfe
      generalize hNc : fm_sI (fm_sI Nb 174 10 (-1)) 174 0 0 = Nc
      have v1 : ∀ q, q ≠ 174 → Nc.1 q = Nb.1 q := fun q hq => by rw [← hNc, row_ne hq, row_ne hq]
      have v2 : ∀ z, Nc.1 174 z = if z = 0 then 0 else if z = 10 then -1 else Nb.1 174 z := fun z => by
        rw [← hNc, sI_r, sI_r]
        simp
      have nb : ∀ q, 174 ≤ q → q ≠ 191 → Nb.1 q = M.1 q := fun q h1 h2 => by rw [s7 q h2, o1, u174 q h1]
      obtain ⟨N', t1, t2, t3, t4, t5, t6, t7, t8, t9, t10, t11, t12, t13, t14, t15, t16⟩ := m_new (N := Nc) (l := l) (r := r) hn5 l24 (by rw [v2, if_neg (by decide), if_neg (by decide), nb 174 (by decide) (by decide)]; exact d2) (by rw [v2, if_neg (by decide), if_neg (by decide), nb 174 (by decide) (by decide)]; exact d4) (by rw [v2, if_neg (by decide), if_neg (by decide), nb 174 (by decide) (by decide)]; exact hmn) (by rw [v2, if_pos rfl])
      have nc : ∀ q, 175 ≤ q → q ≠ 191 → Nc.1 q = M.1 q := fun q h1 h2 => by rw [v1 q (by omega), nb q (by omega) h2]
      have hD : f_Mo_define 174 Mo = some (nI n, N') := by
        have k9 : Mo.1 174 9 = nI n := by rw [o1, u174 174 (by decide)]; exact hmn
        have k11 : Mo.1 174 11 = 0 := by rw [o1, u174 174 (by decide), ← hw]; exact hw0
        have l10 : (fm_sI Nb 174 10 (-1)).1 174 10 = -1 := by rw [sI_r, if_pos ⟨rfl, rfl⟩]
        have l0 : Nc.1 174 0 = 0 := by rw [v2, if_pos rfl]
        have l9 : Nc.1 174 9 = nI n := by rw [v2, if_neg (by decide), if_neg (by decide), nb 174 (by decide) (by decide)]; exact hmn
        unfold f_Mo_define j_Mo_define_21 j_Mo_define_35 j_Mo_define_59
        rw [gi_e cl_174, ob_e, k9, if_neg (show ¬ 6 ≤ nI n from nI_ge (b := 6) hn5 (by decide)), gi_e cl_174, ob_e, k11, if_pos rfl, if_neg (by decide), ck_e cl_174, ob_e, s2, bd_e, pi_e cl_174, ob_e, if_neg (by decide), gi_e cl_174, ob_e, l10, if_pos (by decide), pi_e cl_174, ob_e, hNc, gi_e cl_174, ob_e, l0, if_pos rfl, gi_e cl_174, ob_e, l9]
        exact t1
      refine ⟨N', ?_, n + 1, k, s, h, _, Rx_d1 hx hw0 hn5 l24 r2 hP (fun q h1 h2 h3 h4 => ?_) (fun z h1 h2 => ?_) ?_ (fun q hq => ?_) ?_ ?_ (fun q hq => ?_) (fun j hj => ?_) (fun q h1 h2 h3 h4 => ?_) (fun z hz => ?_) t5 t6 t7 ?_ (fun z hz => ?_) t9 t10 t11 (fun z hz => ?_) (fun z hz => ?_) (fun z hz => ?_) (fun j hj => ?_) (fun j hj => ?_)⟩
      · unfold l_case4
        rw [hC, bd_e, ck_e cl_174, ob_e, hD, bd_e]
        refine tail_i ?_ (fun _ => ?_)
        · rw [t4 0 (by omega), v2, if_pos rfl]
        · rw [t2, ← hNc]
          show Nb.2.1 210 0 = _
          rw [s6]
          exact o4
      · rw [t3 q (by omega), v1 q (by omega), s7 q (by omega), o1, u1 q (by omega), e3 q (by omega), mb1 q (by omega)]
      · rw [t3 0 (by omega), v1 0 (by omega), s7 0 (by omega), o1, u0, if_neg h1, mb0 z h2]
      · rw [t3 0 (by omega), v1 0 (by omega), s7 0 (by omega), o1, u0, if_pos rfl]
      · have w2 : N'.2 = Mo.2 := by
          rw [t2, ← hNc]
          exact s6
        rw [w2]
        exact ⟨o2 q hq, by rw [o3]⟩
      · rw [t3 165 (by omega), v1 165 (by omega), s7 165 (by omega), o1]; exact u5
      · rw [t3 165 (by omega), v1 165 (by omega), s7 165 (by omega), o1]; exact u6
      · have w1 : ∀ z, 25 + 15 * n ≤ z → z ≤ 37 + 15 * n → N'.1 z = Mn.1 z := fun z h1 h2 => by rw [t3 z (by omega), v1 z (by omega), s7 z (by omega), o1, u1 z (by omega)]
        rw [w1 q (by omega) (by omega), w1 (q + 4) (by omega) (by omega), w1 (q + 5) (by omega) (by omega), w1 (q + 1) (by omega) (by omega), w1 (q + 2) (by omega) (by omega), w1 (q + 3) (by omega) (by omega)]
        exact e4 q hq
      · rw [t3 _ (by omega), v1 _ (by omega), s7 _ (by omega), o1, u1 _ (by omega)]
        exact e5 j hj
      · rw [t3 q (by omega), nc q h1 h3]
      · rw [t4 z (by omega), v2, if_neg (by omega), if_neg (by omega), nb 174 (by decide) (by decide)]
      · rw [t3 0 (by omega), v1 0 (by omega), s7 0 (by omega), o1, u0, if_neg (by decide), mb8, t4 10 (by omega), v2, if_neg (by decide), if_pos rfl]
      · rw [(t8 z hz).1, (t8 z hz).2.1, (t8 z hz).2.2, nc 181 (by decide) (by decide), nc 184 (by decide) (by decide), nc 186 (by decide) (by decide)]
        exact ⟨rfl, rfl, rfl⟩
      · rw [(t12 z hz).1, (t12 z hz).2.1, (t12 z hz).2.2, nc 182 (by decide) (by decide), nc 183 (by decide) (by decide), nc 190 (by decide) (by decide)]
        exact ⟨rfl, rfl, rfl⟩
      · rw [(t13 z hz).1, (t13 z hz).2, nc 187 (by decide) (by decide), nc 188 (by decide) (by decide)]
        exact ⟨rfl, rfl⟩
      · rw [(t14 z hz).1, (t14 z hz).2, nc 185 (by decide) (by decide), nc 189 (by decide) (by decide)]
        exact ⟨rfl, rfl⟩
      · obtain ⟨y1, y2, y3, y4, y5⟩ := t15 j hj
        have hh := d5 j hj
        rw [Nat.zero_add] at hh
        have h177 : Nc.1 177 j = M.1 169 j := by rw [nc 177 (by decide) (by decide)]; exact hh.1.symm
        have h178 : Nc.1 178 j = M.1 170 j := by rw [nc 178 (by decide) (by decide)]; exact hh.2.symm
        rw [y1, y2, y3, y4, y5, h177, h178]
        exact ⟨rfl, rfl, rfl, rfl, rfl⟩
      · have hh := d6 j hj
        rw [Nat.zero_add] at hh
        have g0 : Nc.1 179 (3 * j) = M.1 166 j := by rw [nc 179 (by decide) (by decide)]; exact hh.1.symm
        have g1 : Nc.1 179 (3 * j + 1) = M.1 167 j := by rw [nc 179 (by decide) (by decide)]; exact hh.2.1.symm
        have g2 : Nc.1 179 (3 * j + 2) = M.1 168 j := by rw [nc 179 (by decide) (by decide)]; exact hh.2.2.symm
        rw [show 6 * n + 3 * j + 1 = 6 * n + (3 * j + 1) from rfl, show 6 * n + 3 * j + 2 = 6 * n + (3 * j + 2) from rfl, (t16 (3 * j) (by omega)).1, (t16 (3 * j) (by omega)).2, (t16 (3 * j + 1) (by omega)).1, (t16 (3 * j + 1) (by omega)).2, (t16 (3 * j + 2) (by omega)).1, (t16 (3 * j + 2) (by omega)).2, g0, g1, g2]
        exact ⟨⟨rfl, rfl, rfl⟩, rfl, rfl, rfl⟩
    · have hneg : ¬ fp < 0 := by
        rcases p3 with ⟨h9, -⟩ | ⟨-, h9⟩
        · exact absurd h9 hfp
        · exact h9
      have z1 : ∀ q, 174 ≤ q → (fm_sI (fm_sI (fm_sI Mb 0 8 fp) 165 5 0) 165 6 0).1 q = M.1 q := fun q hq => by rw [row_ne (by omega), row_ne (by omega), mb1 q (by omega)]
      obtain ⟨fp', Mb', Nb, s1, s2, -, -, -, s6, s7⟩ := fault2 (hDR (fm_sI (fm_sI (fm_sI Mb 0 8 fp) 165 5 0) 165 6 0) (fun q h1 h2 => z1 q h1))
      have hfe : fp' = fp := (congrArg Prod.fst (Option.some.inj (p1.symm.trans s1))).symm
      subst hfe
      refine bad 2 fp' (fm_sI Mb 0 8 fp') Nb (Or.inr rfl) mb1 mb0 mb2 mb8 ?_ s7 s6 ?_
      · unfold f_Law_define
        rw [ck_e cl_0, ob_e, cpre, if_neg hfp, lt_r, if_neg (by decide), if_pos rfl]
      · have k9 := z1 174 (by decide)
        have l10 : (fm_sI Nb 174 10 fp').1 174 10 = fp' := by rw [sI_r, if_pos ⟨rfl, rfl⟩]
        unfold f_Mo_define j_Mo_define_21 j_Mo_define_35
        rw [gi_e cl_174, ob_e, k9, hmn, if_neg (show ¬ 6 ≤ nI n from nI_ge (b := 6) hn5 (by decide)), gi_e cl_174, ob_e, k9, if_pos (show M.1 174 11 = 0 from hw.symm.trans hw0), if_neg (by decide), ck_e cl_174, ob_e, s2, bd_e, pi_e cl_174, ob_e, if_neg (by decide), gi_e cl_174, ob_e, l10, if_neg hneg]
  · have z1 : ∀ q, 174 ≤ q → (fm_sI (fm_sI Ma 165 5 0) 165 6 0).1 q = M.1 q := fun q hq => by rw [row_ne (by omega), row_ne (by omega), ra q (by omega)]
    refine bad 1 (-1) Ma (fm_sI (fm_sI Ma 165 5 0) 165 6 0) (Or.inl rfl) (fun q hq => ra q (by omega)) ra0 ra2 (by rw [← hMa, sI_r, if_pos ⟨rfl, rfl⟩]) ?_ (fun _ _ => rfl) rfl ?_
    · have hj : j_AP_define_21 0 Ma = some (.inr "java/lang/IllegalStateException", fm_sI (fm_sI Ma 165 5 0) 165 6 0) := by
        unfold j_AP_define_21
        rw [gr_0_5, ob_e, ck_e cl_165, ob_e, e_cclr cd_d, ob_e]
      have hA : f_AP_define 0 M = some (.inr "java/lang/IllegalStateException", fm_sI (fm_sI Ma 165 5 0) 165 6 0) := by
        unfold f_AP_define
        rw [pi_e cl_0, ob_e, hMa, gi_e cl_0, ob_e, hj, gi_e cl_0, ob_e, ra0 9 (by decide), ra0 7 (by decide), hn]
        by_cases hw0 : M.1 0 9 = 0
        · have h9 : ¬ n < 6 := fun h => hroom ⟨hw0, h⟩
          rw [if_pos hw0, if_neg (show ¬ nI n < 6 from nI_nlt (b := 6) (by omega) (by omega))]
        · rw [if_neg hw0]
      unfold f_Law_define
      rw [ck_e cl_0, ob_e, hA, lt_r, if_pos rfl]
    · have k9 := z1 174 (by decide)
      have hj : j_Mo_define_20 174 (fm_sI (fm_sI Ma 165 5 0) 165 6 0) = j_Mo_define_59 174 174 1 (fm_sI (fm_sI (fm_sI Ma 165 5 0) 165 6 0) 174 10 (-1)) := by
        unfold j_Mo_define_20 j_Mo_define_21 j_Mo_define_35
        rw [if_pos rfl, pi_e cl_174, ob_e, if_pos rfl]
      unfold f_Mo_define
      rw [hj, gi_e cl_174, ob_e, k9, hmn]
      by_cases hn5 : n < 6
      · rw [if_neg (show ¬ 6 ≤ nI n from nI_ge (b := 6) hn5 (by decide)), gi_e cl_174, ob_e, k9, if_neg (fun h9 => hroom ⟨hw.trans h9, hn5⟩)]
      · rw [if_pos (show 6 ≤ nI n from nI_le (a := 6) (by omega) (by omega))]
