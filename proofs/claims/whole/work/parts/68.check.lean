/-! the draft's check, up to the depths -/
def fit (o : Nat) (a : Int32) (l k n : Nat) : Prop := ((o = 1 ∨ o = 2) → ∃ x, x < 4 ∧ a = nI x) ∧ ((8 ≤ o ∧ o ≤ 10) → ∃ x, x < l ∧ a = nI x) ∧ (o = 11 → ∃ x, x < k ∧ a = nI x) ∧ (o = 12 → (a = 1 ∨ a = 2 ∨ a = 4 ∨ a = 8)) ∧ (o = 13 → ∃ x, x ≤ n ∧ a = nI x)
theorem e_isl1 {x : Int32} {M : fm_M} (h : 0 ≤ x.toInt ∧ x.toInt < 4) : f_AP_isLocal x M = some (1, M) := by
  obtain ⟨k, -, rfl, hk⟩ := nI_get h.1
  exact e_loc (by omega)
theorem e_isl0 {x : Int32} {M : fm_M} (h : ¬ (0 ≤ x.toInt ∧ x.toInt < 4)) : f_AP_isLocal x M = some (0, M) := by
  unfold f_AP_isLocal
  by_cases h1 : x < 0
  · rw [if_pos h1]
  · rw [if_neg h1, if_pos (show (4 : Int32) ≤ x from (len (k := 4) (by decide)).mpr (by rw [lt0] at h1; omega))]
theorem bz_1 : bz 1 = some () := rfl
theorem bz_0 : bz 0 = some () := rfl
theorem get_n {a : Int32} {K : Nat} (h : 0 ≤ a.toInt ∧ a.toInt < K) : ∃ x, x < K ∧ a = nI x := by
  obtain ⟨x, -, h2, h3⟩ := nI_get h.1
  exact ⟨x, by omega, h2⟩
section CHECK
variable {n k l r i o : Nat} {a : Int32} {Mc Mm : fm_M}
theorem fits2 (hl : Mc.1 165 5 = nI l) (hl24 : l ≤ 24) (hi : i < l) (ho : o ≤ 15) (hO : Mc.1 169 i = nI o) (hA : Mc.1 170 i = a) (hk : Mc.1 2 1 = nI k) (hk6 : k ≤ 6) (hn6 : n ≤ 6) (ml : Mm.1 174 4 = nI l) (mk : Mm.1 174 1 = nI k) (mn : Mm.1 174 9 = nI n) : ∃ b, f_Checker_fits 165 (nI i) 2 (nI n) Mc = some (b, Mc) ∧ f_Mo_fits 174 (nI o) a Mm = some (b, Mm) ∧ ((b = 1 ∧ fit o a l k n) ∨ b = 0) := by
  have pre : f_Checker_fits 165 (nI i) 2 (nI n) Mc = (if (if o = 8 ∨ o = 9 ∨ o = 10 then (1 : Int32) else 0) = 0 then
    if nI o = 1 then bd (f_AP_isLocal a Mc) fun x116 M114 => (bz x116).bind fun _ => some (x116, M114) else
    if nI o = 2 then bd (f_AP_isLocal a Mc) fun x121 M119 => (bz x121).bind fun _ => some (x121, M119) else
    if nI o = 3 then some (1, Mc) else if nI o = 4 then some (1, Mc) else if nI o = 5 then some (1, Mc) else if nI o = 6 then some (1, Mc) else if nI o = 7 then some (1, Mc) else if nI o = 8 then some (1, Mc) else if nI o = 9 then some (1, Mc) else if nI o = 10 then some (1, Mc) else
    if nI o = 11 then (ck 2 8).bind fun _ => bd (f_Types_has 2 a Mc) fun x135 M133 => (bz x135).bind fun _ => some (x135, M133) else
    if nI o = 12 then bd (f_AP_isWidth a Mc) fun x140 M138 => (bz x140).bind fun _ => some (x140, M138) else
    if nI o = 13 then if a < 0 then some (0, Mc) else if nI n < a then some (0, Mc) else some (1, Mc) else some (1, Mc)
    else (ck 165 1).bind fun _ => bd (f_Code_has 165 a Mc) fun x148 M146 => (bz x148).bind fun _ => some (x148, M146)) := by
    unfold f_Checker_fits
    rw [ck_e cl_165, ob_e, e_op1 cd_d hl (by decide) hl24 hi, bd_e, ob_e, e_ar1 cd_d hl (by decide) hl24 hi, bd_e, hO, hA, e_brn (by omega), bd_e]
  rw [pre]
  rcases (show (o = 1 ∨ o = 2) ∨ (o = 8 ∨ o = 9 ∨ o = 10) ∨ o = 11 ∨ o = 12 ∨ o = 13 ∨ (o = 0 ∨ o = 3 ∨ o = 4 ∨ o = 5 ∨ o = 6 ∨ o = 7 ∨ o = 14 ∨ o = 15) by omega) with h | h | h | h | h | h
  · rw [if_neg (show ¬ (o = 8 ∨ o = 9 ∨ o = 10) by omega), if_pos rfl]
    by_cases hv : 0 ≤ a.toInt ∧ a.toInt < 4
    · refine ⟨1, ?_, ?_, Or.inl ⟨rfl, fun _ => get_n (K := 4) hv, fun h9 => absurd h9 (by omega), fun h9 => absurd h9 (by omega), fun h9 => absurd h9 (by omega), fun h9 => absurd h9 (by omega)⟩⟩
      · rw [e_isl1 hv, bd_e, bz_1, ob_e]
        rcases h with rfl | rfl
        · rw [if_pos (by decide)]
        · rw [if_neg (by decide), if_pos (by decide)]
      · unfold f_Mo_fits j_Mo_fits_10
        rw [show (4 : Int32) = nI 4 from rfl, e_out1 (by decide) hv, bd_e, if_pos rfl]
        rcases h with rfl | rfl
        · rw [if_pos (by decide)]
        · rw [if_neg (by decide), if_pos (by decide)]
    · refine ⟨0, ?_, ?_, Or.inr rfl⟩
      · rw [e_isl0 hv, bd_e, bz_0, ob_e]
        rcases h with rfl | rfl
        · rw [if_pos (by decide)]
        · rw [if_neg (by decide), if_pos (by decide)]
      · unfold f_Mo_fits j_Mo_fits_10
        rw [show (4 : Int32) = nI 4 from rfl, e_out0 (by decide) hv, bd_e, if_neg (show ¬ (1 : Int32) = 0 by decide)]
        rcases h with rfl | rfl
        · rw [if_pos (by decide)]
        · rw [if_neg (by decide), if_pos (by decide)]
  · rw [if_pos h, if_neg (by decide), ck_e cl_165, ob_e]
    have hne1 : ¬ nI o = 1 := fun h9 => by have := (nI_eq (b := 1) (by omega) (by decide)).mp h9; omega
    have hne2 : ¬ nI o = 2 := fun h9 => by have := (nI_eq (b := 2) (by omega) (by decide)).mp h9; omega
    by_cases hv : 0 ≤ a.toInt ∧ a.toInt < l
    · refine ⟨1, ?_, ?_, Or.inl ⟨rfl, fun h9 => absurd h9 (by omega), fun _ => get_n hv, fun h9 => absurd h9 (by omega), fun h9 => absurd h9 (by omega), fun h9 => absurd h9 (by omega)⟩⟩
      · rw [e_chas1 cd_d hl (by omega) hv, bd_e, bz_1, ob_e]
      · unfold f_Mo_fits
        rw [if_neg hne1, if_neg hne2, e_jmp (by omega), if_pos h, bd_e, if_neg (by decide), gi_e cl_174, ob_e, ml, e_out1 (by omega) hv, bd_e, if_pos rfl]
    · refine ⟨0, ?_, ?_, Or.inr rfl⟩
      · rw [e_chas0 cd_d hl (by omega) hv, bd_e, bz_0, ob_e]
      · unfold f_Mo_fits
        rw [if_neg hne1, if_neg hne2, e_jmp (by omega), if_pos h, bd_e, if_neg (by decide), gi_e cl_174, ob_e, ml, e_out0 (by omega) hv, bd_e, if_neg (by decide)]
  · subst h
    rw [if_pos (by decide), if_neg (by decide), if_neg (by decide), if_neg (by decide), if_neg (by decide), if_neg (by decide), if_neg (by decide), if_neg (by decide), if_neg (by decide), if_neg (by decide), if_neg (by decide), if_pos (by decide), ck_e cl_2, ob_e]
    by_cases hv : 0 ≤ a.toInt ∧ a.toInt < k
    · refine ⟨1, ?_, ?_, Or.inl ⟨rfl, fun h9 => absurd h9 (by omega), fun h9 => absurd h9 (by omega), fun _ => get_n hv, fun h9 => absurd h9 (by omega), fun h9 => absurd h9 (by omega)⟩⟩
      · rw [e_has1 hk hk6 hv, bd_e, bz_1, ob_e]
      · unfold f_Mo_fits
        rw [if_neg (by decide), if_neg (by decide), e_jmp (by decide), if_neg (by decide), bd_e, if_pos rfl, if_pos (by decide), gi_e cl_174, ob_e, mk, e_out1 (by omega) hv, bd_e, if_pos rfl]
    · refine ⟨0, ?_, ?_, Or.inr rfl⟩
      · rw [e_has0 hk hk6 hv, bd_e, bz_0, ob_e]
      · unfold f_Mo_fits
        rw [if_neg (by decide), if_neg (by decide), e_jmp (by decide), if_neg (by decide), bd_e, if_pos rfl, if_pos (by decide), gi_e cl_174, ob_e, mk, e_out0 (by omega) hv, bd_e, if_neg (by decide)]
  · subst h
    rw [if_pos (by decide), if_neg (by decide), if_neg (by decide), if_neg (by decide), if_neg (by decide), if_neg (by decide), if_neg (by decide), if_neg (by decide), if_neg (by decide), if_neg (by decide), if_neg (by decide), if_neg (by decide), if_pos (by decide)]
    have mp : f_Mo_fits 174 (nI 12) a Mm = if a = 1 then some (1, Mm) else if a = 2 then some (1, Mm) else if a = 4 then some (1, Mm) else if a = 8 then some (1, Mm) else some (0, Mm) := by
      unfold f_Mo_fits j_Mo_fits_98
      rw [if_neg (by decide), if_neg (by decide), e_jmp (by decide), if_neg (show ¬ (12 = 8 ∨ 12 = 9 ∨ 12 = 10) by decide), bd_e, if_pos rfl, if_neg (by decide), if_pos (show nI 12 = 12 by decide)]
    have cp : f_AP_isWidth a Mc = if a = 1 then some (1, Mc) else if a = 2 then some (1, Mc) else if a = 4 then some (1, Mc) else if a = 8 then some (1, Mc) else some (0, Mc) := rfl
    rw [mp, cp]
    by_cases h1 : a = 1
    · rw [if_pos h1, if_pos h1, bd_e, bz_1, ob_e]
      exact ⟨1, rfl, rfl, Or.inl ⟨rfl, fun h9 => absurd h9 (by omega), fun h9 => absurd h9 (by omega), fun h9 => absurd h9 (by omega), fun _ => Or.inl h1, fun h9 => absurd h9 (by omega)⟩⟩
    · rw [if_neg h1, if_neg h1]
      by_cases h2 : a = 2
      · rw [if_pos h2, if_pos h2, bd_e, bz_1, ob_e]
        exact ⟨1, rfl, rfl, Or.inl ⟨rfl, fun h9 => absurd h9 (by omega), fun h9 => absurd h9 (by omega), fun h9 => absurd h9 (by omega), fun _ => Or.inr (Or.inl h2), fun h9 => absurd h9 (by omega)⟩⟩
      · rw [if_neg h2, if_neg h2]
        by_cases h4 : a = 4
        · rw [if_pos h4, if_pos h4, bd_e, bz_1, ob_e]
          exact ⟨1, rfl, rfl, Or.inl ⟨rfl, fun h9 => absurd h9 (by omega), fun h9 => absurd h9 (by omega), fun h9 => absurd h9 (by omega), fun _ => Or.inr (Or.inr (Or.inl h4)), fun h9 => absurd h9 (by omega)⟩⟩
        · rw [if_neg h4, if_neg h4]
          by_cases h8 : a = 8
          · rw [if_pos h8, if_pos h8, bd_e, bz_1, ob_e]
            exact ⟨1, rfl, rfl, Or.inl ⟨rfl, fun h9 => absurd h9 (by omega), fun h9 => absurd h9 (by omega), fun h9 => absurd h9 (by omega), fun _ => Or.inr (Or.inr (Or.inr h8)), fun h9 => absurd h9 (by omega)⟩⟩
          · rw [if_neg h8, if_neg h8, bd_e, bz_0, ob_e]
            exact ⟨0, rfl, rfl, Or.inr rfl⟩
  · subst h
    rw [if_pos (by decide), if_neg (by decide), if_neg (by decide), if_neg (by decide), if_neg (by decide), if_neg (by decide), if_neg (by decide), if_neg (by decide), if_neg (by decide), if_neg (by decide), if_neg (by decide), if_neg (by decide), if_neg (by decide), if_pos (by decide)]
    have mp : f_Mo_fits 174 (nI 13) a Mm = if a < 0 then some (0, Mm) else if nI n < a then some (0, Mm) else some (1, Mm) := by
      unfold f_Mo_fits j_Mo_fits_122
      rw [if_neg (by decide), if_neg (by decide), e_jmp (by decide), if_neg (show ¬ (13 = 8 ∨ 13 = 9 ∨ 13 = 10) by decide), bd_e, if_pos rfl, if_neg (by decide), if_neg (by decide), if_pos (show nI 13 = 13 by decide), gi_e cl_174, ob_e, mn]
    rw [mp]
    by_cases h1 : a < 0
    · rw [if_pos h1, if_pos h1]
      exact ⟨0, rfl, rfl, Or.inr rfl⟩
    · rw [if_neg h1, if_neg h1]
      by_cases h2 : nI n < a
      · rw [if_pos h2, if_pos h2]
        exact ⟨0, rfl, rfl, Or.inr rfl⟩
      · rw [if_neg h2, if_neg h2]
        refine ⟨1, rfl, rfl, Or.inl ⟨rfl, fun h9 => absurd h9 (by omega), fun h9 => absurd h9 (by omega), fun h9 => absurd h9 (by omega), fun h9 => absurd h9 (by omega), fun _ => ?_⟩⟩
        rw [lt0] at h1
        rw [nlt (by omega)] at h2
        obtain ⟨x, x1, x2⟩ := get_n (a := a) (K := n + 1) (by omega)
        exact ⟨x, by omega, x2⟩
  · refine ⟨1, ?_, ?_, Or.inl ⟨rfl, fun h9 => absurd h9 (by omega), fun h9 => absurd h9 (by omega), fun h9 => absurd h9 (by omega), fun h9 => absurd h9 (by omega), fun h9 => absurd h9 (by omega)⟩⟩
    · rcases h with rfl | rfl | rfl | rfl | rfl | rfl | rfl | rfl <;> (repeat (first | rw [if_neg (by decide)] | rw [if_pos (by decide)]))
    · unfold f_Mo_fits j_Mo_fits_122
      rw [e_jmp (by omega), if_neg (show ¬ (o = 8 ∨ o = 9 ∨ o = 10) by omega), bd_e, if_pos rfl]
      rcases h with rfl | rfl | rfl | rfl | rfl | rfl | rfl | rfl <;> (repeat (first | rw [if_neg (by decide)] | rw [if_pos (by decide)]))
/-- what is known of a draft, on both sides -/
def DR (n k l r : Nat) (Mc Mm : fm_M) : Prop := n ≤ 6 ∧ k ≤ 6 ∧ l ≤ 24 ∧ r ≤ 2 ∧ Mc.1 165 5 = nI l ∧ Mc.1 165 6 = nI r ∧ Mc.1 2 1 = nI k ∧ Mm.1 174 4 = nI l ∧ Mm.1 174 7 = nI r ∧ Mm.1 174 1 = nI k ∧ Mm.1 174 9 = nI n ∧ (∀ i, i < l → (∃ o, o ≤ 15 ∧ Mc.1 169 i = nI o) ∧ Mm.1 177 i = Mc.1 169 i ∧ Mm.1 178 i = Mc.1 170 i) ∧ ∀ i, i < r → Mm.1 179 (3 * i) = Mc.1 166 i ∧ Mm.1 179 (3 * i + 1) = Mc.1 167 i ∧ Mm.1 179 (3 * i + 2) = Mc.1 168 i
def endM (l : Nat) (Mm : fm_M) : Option (Int32 × fm_M) := bd (f_Mo_goesOn (Mm.1 177 (l - 1)) Mm) fun x142 M140 => if x142 = 0 then h_Mo_malformed_72 100000 174 0 M140 else (gi 174 10 4 M140).bind fun x144 => some ((x144 - 1), M140)
theorem chk1 (hd : DR n k l r Mc Mm) (hl0 : 0 < l) : ∀ (kk i n1 n2 : Nat), i + kk = l → kk < n1 → kk < n2 → (∃ j, j < l ∧ h_Checker_wrongArgument_11 n1 165 2 (nI n) (nI i) Mc = some (nI j, Mc) ∧ h_Mo_malformed_11 n2 174 (nI i) Mm = some (nI j, Mm)) ∨ ((∀ j, i ≤ j → j < l → ∃ o, o ≤ 15 ∧ Mc.1 169 j = nI o ∧ fit o (Mc.1 170 j) l k n) ∧ h_Checker_wrongArgument_11 n1 165 2 (nI n) (nI i) Mc = some (-1, Mc) ∧ h_Mo_malformed_11 n2 174 (nI i) Mm = endM l Mm)
  | 0, i, n1 + 1, n2 + 1, hi, _, _ => by
    have : i = l := by omega
    subst this
    obtain ⟨h1, h2, h3, h4, h5, h6, h7, h8, h9, h10, h11, h12, h13⟩ := hd
    refine Or.inr ⟨fun j a b => absurd b (by omega), ?_, ?_⟩
    · rw [h_Checker_wrongArgument_11, gi_e cl_165, ob_e, h5, if_pos (nI_le (Nat.le_refl _) (by omega))]
    · rw [h_Mo_malformed_11, gi_e cl_174, ob_e, h8, if_pos (nI_le (Nat.le_refl _) (by omega)), gr_174_5, ob_e, ob_e, show nI i - 1 = nI (i - 1) by rw [show (1 : Int32) = nI 1 from rfl, nI_sub (by omega)], ai_n an_177 (by omega) (by decide), ob_e]
      rfl
  | kk + 1, i, n1 + 1, n2 + 1, hi, g1, g2 => by
    have ih := chk1 hd hl0 kk (i + 1) n1 n2 (by omega) (by omega) (by omega)
    obtain ⟨h1, h2, h3, h4, h5, h6, h7, h8, h9, h10, h11, h12, h13⟩ := hd
    obtain ⟨⟨o, o1, o2⟩, o3, o4⟩ := h12 i (by omega)
    obtain ⟨b, b1, b2, b3⟩ := fits2 (Mm := Mm) h5 h3 (show i < l by omega) o1 o2 rfl h7 h2 h1 h8 h10 h11
    have cp : h_Checker_wrongArgument_11 (n1 + 1) 165 2 (nI n) (nI i) Mc = if b = 0 then some (nI i, Mc) else h_Checker_wrongArgument_11 n1 165 2 (nI n) (nI (i + 1)) Mc := by
      rw [h_Checker_wrongArgument_11, gi_e cl_165, ob_e, h5, if_neg (nI_ge (by omega) (by omega)), b1, bd_e, nI_1]
    have mp : h_Mo_malformed_11 (n2 + 1) 174 (nI i) Mm = if b = 0 then some (nI i, Mm) else h_Mo_malformed_11 n2 174 (nI (i + 1)) Mm := by
      rw [h_Mo_malformed_11, gi_e cl_174, ob_e, h8, if_neg (nI_ge (by omega) (by omega)), gr_174_5, ob_e, ai_n an_177 (by omega) (by decide), ob_e, gr_174_6, ob_e, ai_n an_178 (by omega) (by decide), ob_e, ck_e cl_174, ob_e, o3, o4, o2, b2, bd_e, nI_1]
    rw [cp, mp]
    rcases b3 with ⟨b3, b4⟩ | b3
    · rw [if_neg (by rw [b3]; decide), if_neg (by rw [b3]; decide)]
      rcases ih with ih | ⟨i1, i2, i3⟩
      · exact Or.inl ih
      · refine Or.inr ⟨fun j a c => ?_, i2, i3⟩
        by_cases hji : j = i
        · subst hji
          exact ⟨o, o1, o2, b4⟩
        · exact i1 j (by omega) c
    · rw [if_pos b3, if_pos b3]
      exact Or.inl ⟨i, by omega, rfl, rfl⟩
theorem chk3 (hd : DR n k l r Mc Mm) : ∀ (kk i n1 n2 : Nat), i + kk = r → kk < n1 → kk < n2 → (∃ j, j < r ∧ h_Checker_wrongRange_2 n1 165 (nI i) Mc = some (nI (24 + j), Mc) ∧ h_Mo_malformed_72 n2 174 (nI i) Mm = some (nI (24 + j), Mm)) ∨ ((∀ j, i ≤ j → j < r → ∃ b e h, Mc.1 166 j = nI b ∧ Mc.1 167 j = nI e ∧ Mc.1 168 j = nI h ∧ b < e ∧ e ≤ l ∧ h < l) ∧ h_Checker_wrongRange_2 n1 165 (nI i) Mc = some (-1, Mc) ∧ h_Mo_malformed_72 n2 174 (nI i) Mm = bd (f_Mo_badDepth 174 Mm) fun x107 M105 => some (x107, M105))
  | 0, i, n1 + 1, n2 + 1, hi, _, _ => by
    have : i = r := by omega
    subst this
    obtain ⟨h1, h2, h3, h4, h5, h6, h7, h8, h9, h10, h11, h12, h13⟩ := hd
    refine Or.inr ⟨fun j a b => absurd b (by omega), ?_, ?_⟩
    · rw [h_Checker_wrongRange_2, gi_e cl_165, ob_e, h6, if_pos (nI_le (Nat.le_refl _) (by omega))]
    · rw [h_Mo_malformed_72, gi_e cl_174, ob_e, h9, if_pos (nI_le (Nat.le_refl _) (by omega)), ck_e cl_174, ob_e]
  | kk + 1, i, n1 + 1, n2 + 1, hi, g1, g2 => by
    have ih := chk3 hd kk (i + 1) n1 n2 (by omega) (by omega) (by omega)
    obtain ⟨h1, h2, h3, h4, h5, h6, h7, h8, h9, h10, h11, h12, h13⟩ := hd
    obtain ⟨r1, r2, r3⟩ := h13 i (by omega)
    have e24 : (24 : Int32) + nI i = nI (24 + i) := nI_add 24 i
    have e3 : (3 : Int32) * nI i = nI (3 * i) := nI_mul 3 i
    have e32 : nI (3 * i) + 2 = nI (3 * i + 2) := nI_add _ 2
    have cp : h_Checker_wrongRange_2 (n1 + 1) 165 (nI i) Mc = (if Mc.1 166 i < 0 then some (nI (24 + i), Mc) else if Mc.1 167 i ≤ Mc.1 166 i then some (nI (24 + i), Mc) else if nI l < Mc.1 167 i then some (nI (24 + i), Mc) else bd (f_Code_has 165 (Mc.1 168 i) Mc) fun x116 M114 => if x116 = 0 then some (nI (24 + i), M114) else h_Checker_wrongRange_2 n1 165 (nI (i + 1)) M114) := by
      rw [h_Checker_wrongRange_2, gi_e cl_165, ob_e, h6, if_neg (nI_ge (by omega) (by omega)), gr_165_2, ob_e, ai_n an_166 (by omega) (by decide), ob_e, ob_e, ai_n an_166 (by omega) (by decide), ob_e, gr_165_3, ob_e, ai_n an_167 (by omega) (by decide), ob_e]
      unfold j_Checker_wrongRange_38 j_Checker_wrongRange_39
      rw [if_pos rfl, if_neg (show ¬ (1 : Int32) = 0 by decide), gr_165_3, ob_e, ai_n an_167 (by omega) (by decide), ob_e, gi_e cl_165, ob_e, h5, gr_165_4, ob_e, ai_n an_168 (by omega) (by decide), ob_e, ck_e cl_165, ob_e, e24, nI_1]
    have mp : h_Mo_malformed_72 (n2 + 1) 174 (nI i) Mm = (if Mc.1 166 i < 0 then some (nI (24 + i), Mm) else if Mc.1 167 i ≤ Mc.1 166 i then some (nI (24 + i), Mm) else if nI l < Mc.1 167 i then some (nI (24 + i), Mm) else bd (f_Mo_out (Mc.1 168 i) (nI l) Mm) fun x129 M127 => if x129 = 0 then h_Mo_malformed_72 n2 174 (nI (i + 1)) M127 else some (nI (24 + i), M127)) := by
      rw [h_Mo_malformed_72, gi_e cl_174, ob_e, h9, if_neg (nI_ge (by omega) (by omega)), gr_174_8, ob_e, e3, ai_n an_179 (by omega) (by decide), ob_e, ob_e, nI_1, ai_n an_179 (by omega) (by decide), ob_e, gi_e cl_174, ob_e, h8, ob_e, e32, ai_n an_179 (by omega) (by decide), ob_e, ob_e, r1, r2, r3, e24, nI_1]
    rw [cp, mp]
    by_cases c1 : Mc.1 166 i < 0
    · rw [if_pos c1, if_pos c1]
      exact Or.inl ⟨i, by omega, rfl, rfl⟩
    · rw [if_neg c1, if_neg c1]
      by_cases c2 : Mc.1 167 i ≤ Mc.1 166 i
      · rw [if_pos c2, if_pos c2]
        exact Or.inl ⟨i, by omega, rfl, rfl⟩
      · rw [if_neg c2, if_neg c2]
        by_cases c3 : nI l < Mc.1 167 i
        · rw [if_pos c3, if_pos c3]
          exact Or.inl ⟨i, by omega, rfl, rfl⟩
        · rw [if_neg c3, if_neg c3]
          by_cases c4 : 0 ≤ (Mc.1 168 i).toInt ∧ (Mc.1 168 i).toInt < l
          · rw [e_chas1 cd_d h5 (by omega) c4, bd_e, if_neg (by decide), e_out1 (by omega) c4, bd_e, if_pos rfl]
            rcases ih with ih | ⟨i1, i2, i3⟩
            · exact Or.inl ih
            · refine Or.inr ⟨fun j a c => ?_, i2, i3⟩
              by_cases hji : j = i
              · subst hji
                rw [lt0] at c1
                rw [Int32.le_iff_toInt_le] at c2
                rw [nlt (by omega)] at c3
                obtain ⟨b, b1, b2⟩ := get_n (a := Mc.1 166 j) (K := 25) (by omega)
                obtain ⟨e, e1, e2⟩ := get_n (a := Mc.1 167 j) (K := 25) (by omega)
                obtain ⟨h, y1, y2⟩ := get_n c4
                rw [b2, e2, nt (by omega), nt (by omega)] at c2
                rw [e2, nt (by omega)] at c3
                exact ⟨b, e, h, b2, e2, y2, by omega, by omega, y1⟩
              · exact i1 j (by omega) c
          · rw [e_chas0 cd_d h5 (by omega) c4, bd_e, if_pos rfl, e_out0 (by omega) c4, bd_e, if_neg (by decide)]
            exact Or.inl ⟨i, by omega, rfl, rfl⟩
theorem e_cls {o : Nat} {M : fm_M} (ho : o ≤ 16) : f_AP_closes (nI o) M = some (if o = 8 ∨ o = 14 ∨ o = 15 then 1 else 0, M) := by
  have e : ∀ b : Nat, b < 20 → (nI o = nI b ↔ o = b) := fun b hb => nI_eq (by omega) (by omega)
  unfold f_AP_closes j_AP_closes_18
  by_cases h1 : o = 8
  · rw [if_pos (show nI o = 8 from (e 8 (by decide)).mpr h1), if_pos (Or.inl h1)]
  · rw [if_neg (show ¬ nI o = 8 from fun h => h1 ((e 8 (by decide)).mp h))]
    by_cases h2 : o = 14
    · rw [if_pos (show nI o = 14 from (e 14 (by decide)).mpr h2), if_pos (Or.inr (Or.inl h2))]
    · rw [if_neg (show ¬ nI o = 14 from fun h => h2 ((e 14 (by decide)).mp h))]
      by_cases h3 : o = 15
      · rw [if_pos (show nI o = 15 from (e 15 (by decide)).mpr h3), if_pos (Or.inr (Or.inr h3))]
      · rw [if_neg (show ¬ nI o = 15 from fun h => h3 ((e 15 (by decide)).mp h)), if_neg (by omega)]
theorem e_gon {o : Nat} {M : fm_M} (ho : o ≤ 16) : f_Mo_goesOn (nI o) M = some (if o = 8 ∨ o = 14 ∨ o = 15 then 0 else 1, M) := by
  have e : ∀ b : Nat, b < 20 → (nI o = nI b ↔ o = b) := fun b hb => nI_eq (by omega) (by omega)
  unfold f_Mo_goesOn
  by_cases h1 : o = 8
  · rw [if_pos (show nI o = 8 from (e 8 (by decide)).mpr h1), if_pos (Or.inl h1)]
  · rw [if_neg (show ¬ nI o = 8 from fun h => h1 ((e 8 (by decide)).mp h))]
    by_cases h2 : o = 14
    · rw [if_pos (show nI o = 14 from (e 14 (by decide)).mpr h2), if_pos (Or.inr (Or.inl h2))]
    · rw [if_neg (show ¬ nI o = 14 from fun h => h2 ((e 14 (by decide)).mp h))]
      by_cases h3 : o = 15
      · rw [if_pos (show nI o = 15 from (e 15 (by decide)).mpr h3), if_pos (Or.inr (Or.inr h3))]
      · rw [if_neg (show ¬ nI o = 15 from fun h => h3 ((e 15 (by decide)).mp h)), if_neg (by omega)]
end CHECK
