/-! the reference's new method -/
section MC
variable {m l r : Nat} {N : fm_M}
theorem md_1 (hm : m < 6) (hl : l ≤ 24) : ∀ (k i n : Nat) (N : fm_M), i + k = l → k < n → N.1 174 4 = nI l → (∀ j, j < i → N.1 182 (24 * m + j) = N.1 177 j ∧ N.1 183 (24 * m + j) = N.1 178 j ∧ N.1 190 (24 * m + j) = -1) → ∃ N', h_Mo_define_76 n 174 (nI m) (nI i) N = h_Mo_define_138 100000 174 (nI m) 0 N' ∧ N'.2 = N.2 ∧ (∀ q, ¬ (q = 182 ∨ q = 183 ∨ q = 190) → N'.1 q = N.1 q) ∧ (∀ z, ¬ (24 * m ≤ z ∧ z < 24 * m + 24) → N'.1 182 z = N.1 182 z ∧ N'.1 183 z = N.1 183 z ∧ N'.1 190 z = N.1 190 z) ∧ ∀ j, j < l → N'.1 182 (24 * m + j) = N.1 177 j ∧ N'.1 183 (24 * m + j) = N.1 178 j ∧ N'.1 190 (24 * m + j) = -1
  | 0, i, n + 1, N, hi, _, h4, h => by
    have : i = l := by omega
    subst this
    refine ⟨N, ?_, rfl, fun _ _ => rfl, fun _ _ => ⟨rfl, rfl, rfl⟩, h⟩
    rw [h_Mo_define_76, gi_e cl_174, ob_e, h4, if_pos (nI_le (Nat.le_refl _) (by omega))]
  | k + 1, i, n + 1, N, hi, hn, h4, h => by
    have hJ : (24 * nI m) + nI i = nI (24 * m + i) := by rw [show (24 : Int32) * nI m = nI (24 * m) from nI_mul 24 m, nI_add]
    generalize hN1 : fm_sI (fm_sI (fm_sI N 182 (24 * m + i) (N.1 177 i)) 183 (24 * m + i) (N.1 178 i)) 190 (24 * m + i) (-1) = N1
    have r1 : ∀ q, ¬ (q = 182 ∨ q = 183 ∨ q = 190) → N1.1 q = N.1 q := fun q hq => by rw [← hN1, row_ne (by omega), row_ne (by omega), row_ne (by omega)]
    have r2 : ∀ z, N1.1 182 z = if z = 24 * m + i then N.1 177 i else N.1 182 z := fun z => by
      rw [← hN1, row_ne (by decide), row_ne (by decide), sI_r]
      simp
    have r3 : ∀ z, N1.1 183 z = if z = 24 * m + i then N.1 178 i else N.1 183 z := fun z => by
      rw [← hN1, row_ne (by decide), sI_r, row_ne (by decide)]
      simp
    have r4 : ∀ z, N1.1 190 z = if z = 24 * m + i then -1 else N.1 190 z := fun z => by
      rw [← hN1, sI_r, row_ne (by decide), row_ne (by decide)]
      simp
    obtain ⟨N', g1, g2, g3, g4, g5⟩ := md_1 hm hl k (i + 1) n N1 (by omega) (by omega) (by rw [r1 174 (by omega)]; exact h4) (fun j hj => by
      rw [r2, r3, r4, r1 177 (by omega), r1 178 (by omega)]
      by_cases hji : j = i
      · rw [if_pos (by omega), if_pos (by omega), if_pos (by omega), hji]; exact ⟨rfl, rfl, rfl⟩
      · rw [if_neg (by omega), if_neg (by omega), if_neg (by omega)]; exact h j (by omega))
    rw [r1 177 (by omega), r1 178 (by omega)] at g5
    refine ⟨N', ?_, by rw [g2, ← hN1]; rfl, fun q hq => (g3 q hq).trans (r1 q hq), fun z hz => ?_, g5⟩
    · rw [h_Mo_define_76, gi_e cl_174, ob_e, h4, if_neg (nI_ge (by omega) (by omega)), gr_174_14, ob_e, gr_174_5, ob_e, ai_n an_177 (by omega) (by decide), ob_e, hJ, si_n an_182 (by omega) (by decide), ob_e, gr_174_15, ob_e, gr_174_6, ob_e, ai_n an_178 (by omega) (by decide), ob_e, row_ne (by decide), si_n an_183 (by omega) (by decide), ob_e, gr_174_22, ob_e, si_n an_190 (by omega) (by decide), ob_e, hN1, nI_1]
      exact g1
    · obtain ⟨y1, y2, y3⟩ := g4 z hz
      rw [y1, y2, y3, r2, r3, r4, if_neg (by omega), if_neg (by omega), if_neg (by omega)]
      exact ⟨rfl, rfl, rfl⟩
/-- the end, behind the copied ranges -/
def md_e (m l r : Nat) (N : fm_M) : Option (Int32 × fm_M) := (f_Mo_same 174 (nI m) (fm_sI (fm_sI (fm_sI N 181 m (nI l)) 184 m (nI r)) 174 9 (nI (m + 1)))).bind fun M128 => j_Mo_define_202 174 M128
theorem md_2 (hm : m < 6) : ∀ (k i n : Nat) (N : fm_M), i + k = 6 → k < n → N.1 174 4 = nI l → N.1 174 7 = nI r → N.1 174 9 = nI m → (∀ z, z < i → N.1 185 (6 * m + z) = N.1 179 z) → ∃ N', h_Mo_define_138 n 174 (nI m) (nI i) N = md_e m l r N' ∧ N'.2 = N.2 ∧ (∀ q, q ≠ 185 → N'.1 q = N.1 q) ∧ (∀ z, ¬ (6 * m ≤ z ∧ z < 6 * m + 6) → N'.1 185 z = N.1 185 z) ∧ ∀ z, z < 6 → N'.1 185 (6 * m + z) = N.1 179 z
  | 0, i, n + 1, N, hi, _, h4, h7, h9, h => by
    have : i = 6 := by omega
    subst this
    refine ⟨N, ?_, rfl, fun _ _ => rfl, fun _ _ => rfl, h⟩
    have e1 : (fm_sI N 181 m (nI l)).1 174 7 = nI r := by rw [row_ne (by decide)]; exact h7
    have e2 : (fm_sI (fm_sI N 181 m (nI l)) 184 m (nI r)).1 174 9 = nI m := by rw [row_ne (by decide), row_ne (by decide)]; exact h9
    rw [h_Mo_define_138, if_pos (by decide), gr_174_13, ob_e, gi_e cl_174, ob_e, h4, si_n an_181 hm (by decide), ob_e, gr_174_16, ob_e, gi_e cl_174, ob_e, e1, si_n an_184 hm (by decide), ob_e, gi_e cl_174, ob_e, e2, nI_1, pi_e cl_174, ob_e, ck_e cl_174, ob_e]
    rfl
  | k + 1, i, n + 1, N, hi, hn, h4, h7, h9, h => by
    have hJ : (6 * nI m) + nI i = nI (6 * m + i) := by rw [show (6 : Int32) * nI m = nI (6 * m) from nI_mul 6 m, nI_add]
    have r1 : ∀ q, q ≠ 185 → (fm_sI N 185 (6 * m + i) (N.1 179 i)).1 q = N.1 q := fun q hq => row_ne hq
    obtain ⟨N', g1, g2, g3, g4, g5⟩ := md_2 hm k (i + 1) n (fm_sI N 185 (6 * m + i) (N.1 179 i)) (by omega) (by omega) (by rw [r1 174 (by omega)]; exact h4) (by rw [r1 174 (by omega)]; exact h7) (by rw [r1 174 (by omega)]; exact h9) (fun z hz => by
      rw [sI_r, r1 179 (by decide)]
      by_cases hzi : z = i
      · rw [if_pos ⟨rfl, by omega⟩, hzi]
      · rw [if_neg (by omega)]; exact h z (by omega))
    rw [r1 179 (by decide)] at g5
    refine ⟨N', ?_, g2, fun q hq => (g3 q hq).trans (r1 q hq), fun z hz => (g4 z hz).trans (by rw [sI_r, if_neg (by omega)]), g5⟩
    rw [h_Mo_define_138, if_neg (show ¬ 6 ≤ nI i from nI_ge (b := 6) (by omega) (by decide)), gr_174_17, ob_e, gr_174_8, ob_e, ai_n an_179 (by omega) (by decide), ob_e, hJ, si_n an_185 (by omega) (by decide), ob_e, nI_1]
    exact g1
theorem sm_2 (hm : m < 6) : ∀ (k i n : Nat) (N : fm_M), i + k = 6 → k < n → (∀ z, z < i → N.1 189 (6 * m + z) = N.1 185 (6 * m + z)) → ∃ N', h_Mo_same_76 n 174 (nI m) (nI i) N = some N' ∧ N'.2 = N.2 ∧ (∀ q, q ≠ 189 → N'.1 q = N.1 q) ∧ (∀ z, ¬ (6 * m ≤ z ∧ z < 6 * m + 6) → N'.1 189 z = N.1 189 z) ∧ ∀ z, z < 6 → N'.1 189 (6 * m + z) = N.1 185 (6 * m + z)
  | 0, i, n + 1, N, hi, _, h => by
    have : i = 6 := by omega
    subst this
    refine ⟨N, ?_, rfl, fun _ _ => rfl, fun _ _ => rfl, h⟩
    rw [h_Mo_same_76, if_pos (by decide)]
  | k + 1, i, n + 1, N, hi, hn, h => by
    have hJ : (6 * nI m) + nI i = nI (6 * m + i) := by rw [show (6 : Int32) * nI m = nI (6 * m) from nI_mul 6 m, nI_add]
    have r1 : ∀ q, q ≠ 189 → (fm_sI N 189 (6 * m + i) (N.1 185 (6 * m + i))).1 q = N.1 q := fun q hq => row_ne hq
    obtain ⟨N', g1, g2, g3, g4, g5⟩ := sm_2 hm k (i + 1) n (fm_sI N 189 (6 * m + i) (N.1 185 (6 * m + i))) (by omega) (by omega) (fun z hz => by
      rw [sI_r, r1 185 (by decide)]
      by_cases hzi : z = i
      · rw [if_pos ⟨rfl, by omega⟩, hzi]
      · rw [if_neg (by omega)]; exact h z (by omega))
    rw [r1 185 (by decide)] at g5
    refine ⟨N', ?_, g2, fun q hq => (g3 q hq).trans (r1 q hq), fun z hz => (g4 z hz).trans (by rw [sI_r, if_neg (by omega)]), g5⟩
    rw [h_Mo_same_76, if_neg (show ¬ 6 ≤ nI i from nI_ge (b := 6) (by omega) (by decide)), gr_174_21, ob_e, gr_174_17, ob_e, hJ, ai_n an_185 (by omega) (by decide), ob_e, si_n an_189 (by omega) (by decide), ob_e, nI_1]
    exact g1
theorem sm_1 (hm : m < 6) (hl : l ≤ 24) : ∀ (k i n : Nat) (N : fm_M), i + k = l → k < n → N.1 181 m = nI l → (∀ j, j < i → N.1 187 (28 * m + j) = N.1 182 (24 * m + j) ∧ N.1 188 (28 * m + j) = N.1 183 (24 * m + j)) → ∃ N', h_Mo_same_14 n 174 (nI m) (nI i) N = some N' ∧ N'.2 = N.2 ∧ (∀ q, ¬ (q = 187 ∨ q = 188 ∨ q = 189) → N'.1 q = N.1 q) ∧ (∀ z, ¬ (28 * m ≤ z ∧ z < 28 * m + 28) → N'.1 187 z = N.1 187 z ∧ N'.1 188 z = N.1 188 z) ∧ (∀ z, ¬ (6 * m ≤ z ∧ z < 6 * m + 6) → N'.1 189 z = N.1 189 z) ∧ (∀ j, j < l → N'.1 187 (28 * m + j) = N.1 182 (24 * m + j) ∧ N'.1 188 (28 * m + j) = N.1 183 (24 * m + j)) ∧ ∀ z, z < 6 → N'.1 189 (6 * m + z) = N.1 185 (6 * m + z)
  | 0, i, n + 1, N, hi, _, h8, h => by
    have : i = l := by omega
    subst this
    obtain ⟨N', g1, g2, g3, g4, g5⟩ := sm_2 hm 6 0 100000 N (by omega) (by omega) (fun z hz => absurd hz (Nat.not_lt_zero _))
    refine ⟨N', ?_, g2, fun q hq => g3 q (by omega), fun z hz => ⟨by rw [g3 187 (by decide)], by rw [g3 188 (by decide)]⟩, g4, fun j hj => by rw [g3 187 (by decide), g3 188 (by decide)]; exact h j hj, g5⟩
    rw [h_Mo_same_14, gr_174_13, ob_e, ai_n an_181 hm (by decide), ob_e, h8, if_pos (nI_le (Nat.le_refl _) (by omega))]
    exact g1
  | k + 1, i, n + 1, N, hi, hn, h8, h => by
    have hJ : (24 * nI m) + nI i = nI (24 * m + i) := by rw [show (24 : Int32) * nI m = nI (24 * m) from nI_mul 24 m, nI_add]
    have hK : (28 * nI m) + nI i = nI (28 * m + i) := by rw [show (28 : Int32) * nI m = nI (28 * m) from nI_mul 28 m, nI_add]
    generalize hN1 : fm_sI (fm_sI N 187 (28 * m + i) (N.1 182 (24 * m + i))) 188 (28 * m + i) (N.1 183 (24 * m + i)) = N1
    have r1 : ∀ q, ¬ (q = 187 ∨ q = 188) → N1.1 q = N.1 q := fun q hq => by rw [← hN1, row_ne (by omega), row_ne (by omega)]
    have r2 : ∀ z, N1.1 187 z = if z = 28 * m + i then N.1 182 (24 * m + i) else N.1 187 z := fun z => by
      rw [← hN1, row_ne (by decide), sI_r]
      simp
    have r3 : ∀ z, N1.1 188 z = if z = 28 * m + i then N.1 183 (24 * m + i) else N.1 188 z := fun z => by
      rw [← hN1, sI_r, row_ne (by decide)]
      simp
    obtain ⟨N', g1, g2, g3, g4, g5, g6, g7⟩ := sm_1 hm hl k (i + 1) n N1 (by omega) (by omega) (by rw [r1 181 (by omega)]; exact h8) (fun j hj => by
      rw [r2, r3, r1 182 (by omega), r1 183 (by omega)]
      by_cases hji : j = i
      · rw [if_pos (by omega), if_pos (by omega), hji]; exact ⟨rfl, rfl⟩
      · rw [if_neg (by omega), if_neg (by omega)]; exact h j (by omega))
    rw [r1 182 (by omega), r1 183 (by omega)] at g6
    rw [r1 185 (by omega)] at g7
    refine ⟨N', ?_, by rw [g2, ← hN1]; rfl, fun q hq => (g3 q hq).trans (r1 q (by omega)), fun z hz => ?_, fun z hz => (g5 z hz).trans (by rw [r1 189 (by omega)]), g6, g7⟩
    · rw [h_Mo_same_14, gr_174_13, ob_e, ai_n an_181 hm (by decide), ob_e, h8, if_neg (nI_ge (by omega) (by omega)), gr_174_19, ob_e, gr_174_14, ob_e, hJ, ai_n an_182 (by omega) (by decide), ob_e, hK, si_n an_187 (by omega) (by decide), ob_e, gr_174_20, ob_e, gr_174_15, ob_e, ai_n an_183 (by omega) (by decide), ob_e, row_ne (by decide), si_n an_188 (by omega) (by decide), ob_e, hN1, nI_1]
      exact g1
    · obtain ⟨y1, y2⟩ := g4 z hz
      rw [y1, y2, r2, r3, if_neg (by omega), if_neg (by omega)]
      exact ⟨rfl, rfl⟩
/-- the whole of it -/
theorem m_new (hm : m < 6) (hl : l ≤ 24) (h4 : N.1 174 4 = nI l) (h7 : N.1 174 7 = nI r) (h9 : N.1 174 9 = nI m) (h0 : N.1 174 0 = 0) : ∃ N', h_Mo_define_76 100000 174 (nI m) 0 N = some (nI m, N') ∧ N'.2 = N.2 ∧ (∀ q, ¬ (q = 174 ∨ (181 ≤ q ∧ q ≤ 190)) → N'.1 q = N.1 q) ∧ (∀ z, ¬ (z = 4 ∨ z = 7 ∨ z = 9) → N'.1 174 z = N.1 174 z) ∧ N'.1 174 4 = 0 ∧ N'.1 174 7 = 0 ∧ N'.1 174 9 = nI (m + 1) ∧ (∀ z, z ≠ m → N'.1 181 z = N.1 181 z ∧ N'.1 184 z = N.1 184 z ∧ N'.1 186 z = N.1 186 z) ∧ N'.1 181 m = nI l ∧ N'.1 184 m = nI r ∧ N'.1 186 m = nI l ∧ (∀ z, ¬ (24 * m ≤ z ∧ z < 24 * m + 24) → N'.1 182 z = N.1 182 z ∧ N'.1 183 z = N.1 183 z ∧ N'.1 190 z = N.1 190 z) ∧ (∀ z, ¬ (28 * m ≤ z ∧ z < 28 * m + 28) → N'.1 187 z = N.1 187 z ∧ N'.1 188 z = N.1 188 z) ∧ (∀ z, ¬ (6 * m ≤ z ∧ z < 6 * m + 6) → N'.1 185 z = N.1 185 z ∧ N'.1 189 z = N.1 189 z) ∧ (∀ j, j < l → N'.1 182 (24 * m + j) = N.1 177 j ∧ N'.1 183 (24 * m + j) = N.1 178 j ∧ N'.1 190 (24 * m + j) = -1 ∧ N'.1 187 (28 * m + j) = N.1 177 j ∧ N'.1 188 (28 * m + j) = N.1 178 j) ∧ ∀ z, z < 6 → N'.1 185 (6 * m + z) = N.1 179 z ∧ N'.1 189 (6 * m + z) = N.1 179 z := by
  obtain ⟨N1, a1, a2, a3, a4, a5⟩ := md_1 hm hl l 0 100000 N (by omega) (by omega) h4 (fun j hj => absurd hj (Nat.not_lt_zero _))
  obtain ⟨N2, b1, b2, b3, b4, b5⟩ := md_2 (l := l) (r := r) hm 6 0 100000 N1 (by omega) (by omega) (by rw [a3 174 (by omega)]; exact h4) (by rw [a3 174 (by omega)]; exact h7) (by rw [a3 174 (by omega)]; exact h9) (fun z hz => absurd hz (Nat.not_lt_zero _))
  generalize hN3 : fm_sI (fm_sI (fm_sI N2 181 m (nI l)) 184 m (nI r)) 174 9 (nI (m + 1)) = N3
  have c1 : ∀ q, ¬ (q = 174 ∨ q = 181 ∨ q = 184) → N3.1 q = N2.1 q := fun q hq => by rw [← hN3, row_ne (by omega), row_ne (by omega), row_ne (by omega)]
  have c2 : ∀ z, N3.1 174 z = if z = 9 then nI (m + 1) else N2.1 174 z := fun z => by
    rw [← hN3, sI_r, row_ne (by decide), row_ne (by decide)]
    simp
  have c3 : ∀ z, N3.1 181 z = if z = m then nI l else N2.1 181 z := fun z => by
    rw [← hN3, row_ne (by decide), row_ne (by decide), sI_r]
    simp
  have c4 : ∀ z, N3.1 184 z = if z = m then nI r else N2.1 184 z := fun z => by
    rw [← hN3, row_ne (by decide), sI_r, row_ne (by decide)]
    simp
  have d1 : ∀ q, q ≠ 186 → (fm_sI N3 186 m (nI l)).1 q = N3.1 q := fun q hq => row_ne hq
  obtain ⟨N4, e1, e2, e3, e4, e5, e6, e7⟩ := sm_1 hm hl l 0 100000 (fm_sI N3 186 m (nI l)) (by omega) (by omega) (by rw [d1 181 (by decide), c3, if_pos rfl]) (fun j hj => absurd hj (Nat.not_lt_zero _))
  have f1 : ∀ q, ¬ (q = 174) → (fm_sI (fm_sI N4 174 4 0) 174 7 0).1 q = N4.1 q := fun q hq => by rw [row_ne (by omega), row_ne (by omega)]
  have f2 : ∀ z, (fm_sI (fm_sI N4 174 4 0) 174 7 0).1 174 z = if z = 7 then 0 else if z = 4 then 0 else N4.1 174 z := fun z => by
    rw [sI_r, sI_r]
    simp
  have g174 : ∀ z, z ≠ 9 → N4.1 174 z = N.1 174 z := fun z hz => by rw [e3 174 (by omega), d1 174 (by decide), c2, if_neg hz, b3 174 (by decide), a3 174 (by omega)]
  have g9 : N4.1 174 9 = nI (m + 1) := by rw [e3 174 (by omega), d1 174 (by decide), c2, if_pos rfl]
  have k182 : ∀ z, N4.1 182 z = N1.1 182 z := fun z => by rw [e3 182 (by omega), d1 182 (by decide), c1 182 (by omega), b3 182 (by decide)]
  have k183 : ∀ z, N4.1 183 z = N1.1 183 z := fun z => by rw [e3 183 (by omega), d1 183 (by decide), c1 183 (by omega), b3 183 (by decide)]
  have k190 : ∀ z, N4.1 190 z = N1.1 190 z := fun z => by rw [e3 190 (by omega), d1 190 (by decide), c1 190 (by omega), b3 190 (by decide)]
  have k185 : ∀ z, N4.1 185 z = N2.1 185 z := fun z => by rw [e3 185 (by omega), d1 185 (by decide), c1 185 (by omega)]
  have fz0 : (fm_sI (fm_sI N4 174 4 0) 174 7 0).1 174 0 = 0 := by rw [f2, if_neg (by decide), if_neg (by decide), g174 0 (by decide), h0]
  have fz9 : (fm_sI (fm_sI N4 174 4 0) 174 7 0).1 174 9 = nI (m + 1) := by rw [f2, if_neg (by decide), if_neg (by decide), g9]
  refine ⟨fm_sI (fm_sI N4 174 4 0) 174 7 0, ?_, ?_, fun q hq => ?_, fun z hz => ?_, ?_, ?_, ?_, fun z hz => ⟨?_, ?_, ?_⟩, ?_, ?_, ?_, fun z hz => ?_, fun z hz => ?_, fun z hz => ?_, fun j hj => ?_, fun z hz => ?_⟩
  · have a1' : h_Mo_define_76 100000 174 (nI m) 0 N = _ := a1
    have b1' : h_Mo_define_138 100000 174 (nI m) 0 N1 = _ := b1
    have hN3' : N3.1 181 m = nI l := by rw [c3, if_pos rfl]
    rw [a1', b1']
    unfold md_e f_Mo_same j_Mo_define_202
    have e1' : h_Mo_same_14 100000 174 (nI m) 0 (fm_sI N3 186 m (nI l)) = some N4 := e1
    rw [hN3, gr_174_18, ob_e, gr_174_13, ob_e, ai_n an_181 hm (by decide), ob_e, hN3', si_n an_186 hm (by decide), ob_e, e1', ob_e, pi_e cl_174, ob_e, pi_e cl_174, ob_e, gi_e cl_174, ob_e, fz0, if_pos (by decide), gi_e cl_174, ob_e, fz9, nI_pred]
  · show N4.2 = N.2
    rw [e2]
    show N3.2 = N.2
    rw [← hN3]
    show N2.2 = N.2
    rw [b2, a2]
  · rw [f1 q (by omega), e3 q (by omega), d1 q (by omega), c1 q (by omega), b3 q (by omega), a3 q (by omega)]
  · rw [f2, if_neg (by omega), if_neg (by omega), g174 z (by omega)]
  · rw [f2, if_neg (by decide), if_pos rfl]
  · rw [f2, if_pos rfl]
  · rw [f2, if_neg (by decide), if_neg (by decide), g9]
  · rw [f1 181 (by decide), e3 181 (by omega), d1 181 (by decide), c3, if_neg hz, b3 181 (by decide), a3 181 (by omega)]
  · rw [f1 184 (by decide), e3 184 (by omega), d1 184 (by decide), c4, if_neg hz, b3 184 (by decide), a3 184 (by omega)]
  · rw [f1 186 (by decide), e3 186 (by omega), sI_r, if_neg (fun h => hz h.2), c1 186 (by omega), b3 186 (by decide), a3 186 (by omega)]
  · rw [f1 181 (by decide), e3 181 (by omega), d1 181 (by decide), c3, if_pos rfl]
  · rw [f1 184 (by decide), e3 184 (by omega), d1 184 (by decide), c4, if_pos rfl]
  · rw [f1 186 (by decide), e3 186 (by omega), sI_r, if_pos ⟨rfl, rfl⟩]
  · rw [f1 182 (by decide), f1 183 (by decide), f1 190 (by decide), k182, k183, k190]
    exact a4 z hz
  · rw [f1 187 (by decide), f1 188 (by decide)]
    obtain ⟨y1, y2⟩ := e4 z hz
    rw [y1, y2, d1 187 (by decide), d1 188 (by decide), c1 187 (by omega), c1 188 (by omega), b3 187 (by decide), b3 188 (by decide), a3 187 (by omega), a3 188 (by omega)]
    exact ⟨rfl, rfl⟩
  · rw [f1 185 (by decide), f1 189 (by decide), k185, b4 z hz, e5 z hz, d1 189 (by decide), c1 189 (by omega), b3 189 (by decide), a3 185 (by omega), a3 189 (by omega)]
    exact ⟨rfl, rfl⟩
  · obtain ⟨y1, y2⟩ := e6 j hj
    obtain ⟨w1, w2, w3⟩ := a5 j hj
    rw [f1 182 (by decide), f1 183 (by decide), f1 190 (by decide), f1 187 (by decide), f1 188 (by decide), k182, k183, k190, y1, y2, d1 182 (by decide), d1 183 (by decide), c1 182 (by omega), c1 183 (by omega), b3 182 (by decide), b3 183 (by decide)]
    exact ⟨w1, w2, w3, w1, w2⟩
  · rw [f1 185 (by decide), f1 189 (by decide), k185, e7 z hz, d1 185 (by decide), c1 185 (by omega), b5 z hz, a3 179 (by omega)]
    exact ⟨rfl, rfl⟩
end MC
