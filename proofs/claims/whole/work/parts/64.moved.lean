/-! where instructions stand when reports are woven in -/
def mv (O : Nat → Int32) : Nat → Nat
  | 0 => 0
  | i + 1 => mv O i + if O i = 11 ∨ O i = 12 then 2 else 1
section MV
variable {O O' : Nat → Int32} {m l : Nat} {M N : fm_M}
theorem mv_s (i : Nat) : mv O (i + 1) = mv O i + 1 ∨ mv O (i + 1) = mv O i + 2 := by
  rw [mv]
  split
  · exact Or.inr rfl
  · exact Or.inl rfl
theorem mv_1 {i : Nat} (h : ¬ (O i = 11 ∨ O i = 12)) : mv O (i + 1) = mv O i + 1 := by rw [mv, if_neg h]
theorem mv_2 {i : Nat} (h : O i = 11 ∨ O i = 12) : mv O (i + 1) = mv O i + 2 := by rw [mv, if_pos h]
theorem mv_ge : ∀ i, i ≤ mv O i ∧ mv O i ≤ 2 * i
  | 0 => ⟨Nat.le_refl _, Nat.le_refl _⟩
  | i + 1 => by
    have := mv_ge i
    have := mv_s (O := O) i
    omega
theorem mv_add : ∀ i k, mv O i + k ≤ mv O (i + k)
  | i, 0 => Nat.le_refl _
  | i, k + 1 => by
    have := mv_add i k
    have := mv_s (O := O) (i + k)
    rw [show i + (k + 1) = i + k + 1 from rfl]
    omega
theorem mv_lt {i j : Nat} (h : i < j) : mv O i < mv O j := by
  have := mv_add (O := O) i (j - i)
  rw [show i + (j - i) = j by omega] at this
  omega
theorem mv_le {i j : Nat} (h : i ≤ j) : mv O i ≤ mv O j := by
  have := mv_add (O := O) i (j - i)
  rw [show i + (j - i) = j by omega] at this
  omega
theorem mv_iff {i j : Nat} : mv O i < mv O j ↔ i < j := ⟨fun h => Nat.lt_of_not_le (fun h9 => by have := mv_le (O := O) h9; omega), mv_lt⟩
theorem mv_inj {i j : Nat} (h : mv O i = mv O j) : i = j := by
  rcases Nat.lt_trichotomy i j with h9 | h9 | h9
  · have := mv_lt (O := O) h9; omega
  · exact h9
  · have := mv_lt (O := O) h9; omega
theorem mv_next {i j : Nat} (h : i < j) (hm : O i = 11 ∨ O i = 12) : mv O i + 2 ≤ mv O j := by
  have := mv_le (O := O) (show i + 1 ≤ j by omega)
  rw [mv_2 hm] at this
  exact this
theorem mv_c : ∀ i, (∀ j, j < i → O' j = O j) → mv O' i = mv O i
  | 0, _ => rfl
  | i + 1, h => by rw [mv, mv, h i (by omega), mv_c i (fun j hj => h j (by omega))]
/-- every place below is one or the other -/
theorem mv_cov : ∀ l w, w < mv O l → ∃ i, i < l ∧ (w = mv O i ∨ ((O i = 11 ∨ O i = 12) ∧ w = mv O i + 1))
  | 0, w, h => absurd h (Nat.not_lt_zero _)
  | l + 1, w, h => by
    by_cases h1 : w < mv O l
    · obtain ⟨i, i1, i2⟩ := mv_cov l w h1
      exact ⟨i, by omega, i2⟩
    · refine ⟨l, by omega, ?_⟩
      by_cases hm : O l = 11 ∨ O l = 12
      · rw [mv_2 hm] at h
        rcases Nat.lt_or_ge w (mv O l + 1) with h9 | h9
        · exact Or.inl (by omega)
        · exact Or.inr ⟨hm, by omega⟩
      · rw [mv_1 hm] at h
        exact Or.inl (by omega)
theorem e_mko {x : Int32} : f_AP_makesObject x M = some (if x = 11 ∨ x = 12 then 1 else 0, M) := by
  unfold f_AP_makesObject j_AP_makesObject_12
  by_cases h1 : x = 11
  · rw [if_pos h1, if_pos (Or.inl h1)]
  · rw [if_neg h1]
    by_cases h2 : x = 12
    · rw [if_pos h2, if_pos (Or.inr h2)]
    · rw [if_neg h2, if_neg (by rintro (h | h); exact h1 h; exact h2 h)]
theorem e_mmk {x : Int32} : f_Mo_makes x M = some (if x = 11 ∨ x = 12 then 1 else 0, M) := by
  unfold f_Mo_makes j_Mo_makes_12
  by_cases h1 : x = 11
  · rw [if_pos h1, if_pos (Or.inl h1)]
  · rw [if_neg h1]
    by_cases h2 : x = 12
    · rw [if_pos h2, if_pos (Or.inr h2)]
    · rw [if_neg h2, if_neg (by rintro (h | h); exact h1 h; exact h2 h)]
theorem e_brn {o : Nat} (ho : o ≤ 16) : f_AP_branches (nI o) M = some (if o = 8 ∨ o = 9 ∨ o = 10 then 1 else 0, M) := by
  have e : ∀ b : Nat, b < 20 → (nI o = nI b ↔ o = b) := fun b hb => nI_eq (by omega) (by omega)
  unfold f_AP_branches j_AP_branches_18
  by_cases h1 : o = 8
  · rw [if_pos (show nI o = 8 from (e 8 (by decide)).mpr h1), if_pos (Or.inl h1)]
  · rw [if_neg (show ¬ nI o = 8 from fun h => h1 ((e 8 (by decide)).mp h))]
    by_cases h2 : o = 9
    · rw [if_pos (show nI o = 9 from (e 9 (by decide)).mpr h2), if_pos (Or.inr (Or.inl h2))]
    · rw [if_neg (show ¬ nI o = 9 from fun h => h2 ((e 9 (by decide)).mp h))]
      by_cases h3 : o = 10
      · rw [if_pos (show nI o = 10 from (e 10 (by decide)).mpr h3), if_pos (Or.inr (Or.inr h3))]
      · rw [if_neg (show ¬ nI o = 10 from fun h => h3 ((e 10 (by decide)).mp h)), if_neg (by omega)]
theorem e_jmp {o : Nat} (ho : o ≤ 16) : f_Mo_jumps (nI o) M = some (if o = 8 ∨ o = 9 ∨ o = 10 then 1 else 0, M) := by
  unfold f_Mo_jumps
  by_cases h1 : o < 8
  · rw [if_pos (show nI o < 8 from nI_lt (b := 8) h1 (by decide)), if_neg (by omega)]
  · rw [if_neg (show ¬ nI o < 8 from nI_nlt (b := 8) (by omega) (by omega))]
    by_cases h2 : 10 < o
    · rw [if_pos (show 10 < nI o from nI_lt (a := 10) h2 (by omega)), if_neg (by omega)]
    · rw [if_neg (show ¬ 10 < nI o from nI_nlt (a := 10) (by omega) (by decide)), if_pos (by omega)]
/-- the class's places -/
theorem e_find_l (hm : m < 6) (hl24 : l ≤ 24) : ∀ (k i n : Nat) (M : fm_M), i + k = l → k < n → M.1 (25 + 15 * m) 5 = nI l → M.1 (25 + 15 * m + 4) = O → (∀ j, j < i → M.1 (38 + 15 * m) j = nI (mv O j)) → ∃ M', h_Method_findPlaces_4 n (24 + 15 * m) (nI (mv O i)) (nI i) M = some M' ∧ M'.2 = M.2 ∧ (∀ q, q ≠ 38 + 15 * m → M'.1 q = M.1 q) ∧ ∀ j, j ≤ l → M'.1 (38 + 15 * m) j = nI (mv O j)
  | 0, i, n + 1, M, hi, _, hl, hO, hM => by
    have : i = l := by omega
    subst this
    refine ⟨fm_sI M (38 + 15 * m) i (nI (mv O i)), ?_, rfl, fun q hq => row_ne hq, fun j hj => ?_⟩
    · rw [h_Method_findPlaces_4, gr_m0 m hm, ob_e, gi_e (cd_o m hm).1, ob_e, hl, if_pos (nI_le (Nat.le_refl _) (by omega)), gr_m3 m hm, ob_e, ob_e, gi_e (cd_o m hm).1, ob_e, hl, si_n (an_m3 m hm) (by omega) (by decide), ob_e]
    · rw [sI_r]
      by_cases hj2 : j = i
      · rw [if_pos ⟨rfl, hj2⟩, hj2]
      · rw [if_neg (fun h => hj2 h.2)]
        exact hM j (by omega)
  | k + 1, i, n + 1, M, hi, hn, hl, hO, hM => by
    have r1 : ∀ q, q ≠ 38 + 15 * m → (fm_sI M (38 + 15 * m) i (nI (mv O i))).1 q = M.1 q := fun q hq => row_ne hq
    obtain ⟨M', g1, g2, g3, g4⟩ := e_find_l hm hl24 k (i + 1) n (fm_sI M (38 + 15 * m) i (nI (mv O i))) (by omega) (by omega) (by rw [r1 _ (by omega)]; exact hl) (by rw [r1 _ (by omega)]; exact hO) (fun j hj => by
      rw [sI_r]
      by_cases hj2 : j = i
      · rw [if_pos ⟨rfl, hj2⟩, hj2]
      · rw [if_neg (fun h => hj2 h.2)]
        exact hM j (by omega))
    refine ⟨M', ?_, g2, fun q hq => (g3 q hq).trans (r1 q hq), g4⟩
    rw [h_Method_findPlaces_4, gr_m0 m hm, ob_e, gi_e (cd_o m hm).1, ob_e, hl, if_neg (nI_ge (by omega) (by omega)), gr_m3 m hm, ob_e, si_n (an_m3 m hm) (by omega) (by decide), ob_e, ob_e, (cd_o m hm).2.1, ob_e, ai_n (cd_o m hm).2.2.2.2.2.2.1 (by omega) (by decide), ob_e, r1 _ (by omega), hO, e_mko, bd_e]
    unfold j_Method_findPlaces_43
    by_cases hk : O i = 11 ∨ O i = 12
    · rw [if_pos hk, if_neg (by decide), show nI (mv O i) + 2 = nI (mv O (i + 1)) by rw [mv_2 hk]; exact nI_add _ 2, nI_1]
      exact g1
    · rw [if_neg hk, if_pos rfl, show nI (mv O i) + 1 = nI (mv O (i + 1)) by rw [mv_1 hk]; exact nI_add _ 1, nI_1]
      exact g1
theorem e_find (hm : m < 6) (hl24 : l ≤ 24) (hl : M.1 (25 + 15 * m) 5 = nI l) (hO : M.1 (25 + 15 * m + 4) = O) : ∃ M', f_Method_findPlaces (24 + 15 * m) M = some M' ∧ M'.2 = M.2 ∧ (∀ q, q ≠ 38 + 15 * m → M'.1 q = M.1 q) ∧ ∀ j, j ≤ l → M'.1 (38 + 15 * m) j = nI (mv O j) := e_find_l hm hl24 l 0 100000 M (by omega) (by omega) hl hO (fun j hj => absurd hj (Nat.not_lt_zero _))
theorem e_place {j : Nat} (hm : m < 6) (hj : j < 25) : f_Method_placeOf (24 + 15 * m) (nI j) M = some (M.1 (38 + 15 * m) j, M) := by
  unfold f_Method_placeOf
  rw [if_neg (nI_pos (by omega)), gr_m3 m hm, ob_e, ln_e (an_m3 m hm) (by omega), ob_e, if_neg (nI_ge hj (by decide)), ob_e, ai_n (an_m3 m hm) hj (by decide), ob_e]
/-- the reference's -/
theorem e_moved_l {i : Nat} (hm : m < 6) (hi : i ≤ 24) (hO : ∀ j, j < i → N.1 182 (24 * m + j) = O j) : ∀ (k j n : Nat), j + k = i → k < n → h_Mo_moved_5 n 174 (nI m) (nI i) (nI (i + (mv O j - j))) (nI j) N = some (nI (mv O i), N)
  | 0, j, n + 1, hj, _ => by
    have : j = i := by omega
    subst this
    have := mv_ge (O := O) j
    rw [h_Mo_moved_5, if_pos (nI_le (Nat.le_refl _) (by omega)), show j + (mv O j - j) = mv O j by omega]
  | k + 1, j, n + 1, hj, hn => by
    have ih := e_moved_l hm hi hO k (j + 1) n (by omega) (by omega)
    have g := mv_ge (O := O) j
    have hJ : (24 * nI m) + nI j = nI (24 * m + j) := by rw [show (24 : Int32) * nI m = nI (24 * m) from nI_mul 24 m, nI_add]
    rw [h_Mo_moved_5, if_neg (nI_ge (by omega) (by omega)), gr_174_14, ob_e, hJ, ai_n an_182 (by omega) (by decide), ob_e, hO j (by omega), e_mmk, bd_e]
    unfold j_Mo_moved_36
    by_cases hk : O j = 11 ∨ O j = 12
    · rw [mv_2 hk, show i + (mv O j + 2 - (j + 1)) = i + (mv O j - j) + 1 by omega] at ih
      rw [if_pos hk, if_neg (by decide), nI_1, nI_1]
      exact ih
    · rw [mv_1 hk, show i + (mv O j + 1 - (j + 1)) = i + (mv O j - j) by omega] at ih
      rw [if_neg hk, if_pos rfl, nI_1]
      exact ih
theorem e_moved {i : Nat} (hm : m < 6) (hi : i ≤ 24) (hO : ∀ j, j < i → N.1 182 (24 * m + j) = O j) : f_Mo_moved 174 (nI m) (nI i) N = some (nI (mv O i), N) := e_moved_l hm hi hO i 0 100000 (by omega) (by omega)
end MV
