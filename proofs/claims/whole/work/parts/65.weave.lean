/-! one method is woven: the loops -/
def aw (O A : Nat → Int32) (i : Nat) : Int32 := if O i = 8 ∨ O i = 9 ∨ O i = 10 then nI (mv O (oN (A i))) else A i
def WS (O A : Nat → Int32) (s0 : Nat) (f g : Nat → Int32) (i : Nat) : Prop := ∀ j, j < i → f (mv O j) = O j ∧ g (mv O j) = aw O A j ∧ ((O j = 11 ∨ O j = 12) → f (mv O j + 1) = 16 ∧ g (mv O j + 1) = nI (s0 + (mv O j - j)))
def SS (O : Nat → Int32) (s0 : Nat) (f0 f : Nat → Int32) (i : Nat) : Prop := ∀ j, j < 24 → f j = if j < i ∧ (O j = 11 ∨ O j = 12) then nI (s0 + (mv O j - j)) else f0 j
/-- what is known of the instructions -/
def dc (O A : Nat → Int32) (l : Nat) : Prop := ∀ i, i < l → ∃ o, o ≤ 15 ∧ O i = nI o ∧ (o = 8 ∨ o = 9 ∨ o = 10 → ∃ x, x < l ∧ A i = nI x)
section WV
variable {O A f g f' g' f0 : Nat → Int32} {s0 m l r i : Nat} {M N : fm_M}
theorem WS_n (h : WS O A s0 f g i) (hk : ¬ (O i = 11 ∨ O i = 12)) (hf : ∀ z, f' z = if z = mv O i then O i else f z) (hg : ∀ z, g' z = if z = mv O i then aw O A i else g z) : WS O A s0 f' g' (i + 1) := by
  intro j hj
  rw [hf, hg]
  by_cases hji : j = i
  · subst hji
    rw [if_pos rfl, if_pos rfl]
    exact ⟨rfl, rfl, fun h9 => absurd h9 hk⟩
  · have h1 := mv_lt (O := O) (show j < i by omega)
    rw [if_neg (by omega), if_neg (by omega)]
    obtain ⟨a, b, c⟩ := h j (by omega)
    refine ⟨a, b, fun h9 => ?_⟩
    have h2 := mv_next (O := O) (show j < i by omega) h9
    rw [hf, hg, if_neg (by omega), if_neg (by omega)]
    exact c h9
theorem WS_m (h : WS O A s0 f g i) (hk : O i = 11 ∨ O i = 12) (hf : ∀ z, f' z = if z = mv O i + 1 then 16 else if z = mv O i then O i else f z) (hg : ∀ z, g' z = if z = mv O i + 1 then nI (s0 + (mv O i - i)) else if z = mv O i then aw O A i else g z) : WS O A s0 f' g' (i + 1) := by
  intro j hj
  rw [hf, hg]
  by_cases hji : j = i
  · subst hji
    rw [if_neg (by omega), if_pos rfl, if_neg (by omega), if_pos rfl]
    exact ⟨rfl, rfl, fun _ => ⟨by rw [hf, if_pos rfl], by rw [hg, if_pos rfl]⟩⟩
  · have h1 := mv_lt (O := O) (show j < i by omega)
    rw [if_neg (by omega), if_neg (by omega), if_neg (by omega), if_neg (by omega)]
    obtain ⟨a, b, c⟩ := h j (by omega)
    refine ⟨a, b, fun h9 => ?_⟩
    have h2 := mv_next (O := O) (show j < i by omega) h9
    rw [hf, hg, if_neg (by omega), if_neg (by omega), if_neg (by omega), if_neg (by omega)]
    exact c h9
theorem SS_n (h : SS O s0 f0 f i) (hk : ¬ (O i = 11 ∨ O i = 12)) (hf : ∀ z, f' z = f z) : SS O s0 f0 f' (i + 1) := by
  intro j hj
  rw [hf, h j hj]
  by_cases hji : j = i
  · subst hji
    rw [if_neg (fun h => hk h.2), if_neg (fun h => hk h.2)]
  · by_cases h9 : j < i ∧ (O j = 11 ∨ O j = 12)
    · rw [if_pos h9, if_pos ⟨by omega, h9.2⟩]
    · rw [if_neg h9, if_neg (fun h => h9 ⟨by omega, h.2⟩)]
theorem SS_m (h : SS O s0 f0 f i) (hk : O i = 11 ∨ O i = 12) (hf : ∀ z, f' z = if z = i then nI (s0 + (mv O i - i)) else f z) : SS O s0 f0 f' (i + 1) := by
  intro j hj
  rw [hf]
  by_cases hji : j = i
  · subst hji
    rw [if_pos rfl, if_pos ⟨by omega, hk⟩]
  · rw [if_neg hji, h j hj]
    by_cases h9 : j < i ∧ (O j = 11 ∨ O j = 12)
    · rw [if_pos h9, if_pos ⟨by omega, h9.2⟩]
    · rw [if_neg h9, if_neg (fun h => h9 ⟨by omega, h.2⟩)]
theorem app_4 {q p z : Nat} {o a : Int32} : (m_app q p o a M).1 (q + 4) z = if z = p then o else M.1 (q + 4) z := by
  unfold m_app
  rw [sI_r, if_neg (by omega), sI_r, if_neg (by omega), sI_r]
  simp
theorem app_5 {q p z : Nat} {o a : Int32} : (m_app q p o a M).1 (q + 5) z = if z = p then a else M.1 (q + 5) z := by
  unfold m_app
  rw [sI_r, if_neg (by omega), sI_r]
  by_cases h : z = p
  · rw [if_pos ⟨rfl, h⟩, if_pos h]
  · rw [if_neg (fun h9 => h h9.2), if_neg h, sI_r, if_neg (by omega)]
theorem app_q {q p z : Nat} {o a : Int32} : (m_app q p o a M).1 q z = if z = 5 then nI (p + 1) else M.1 q z := by
  unfold m_app
  rw [sI_r]
  by_cases h : z = 5
  · rw [if_pos ⟨rfl, h⟩, if_pos h]
  · rw [if_neg (fun h9 => h h9.2), if_neg h, sI_r, if_neg (by omega), sI_r, if_neg (by omega)]
theorem app_o {q p k : Nat} {o a : Int32} (h : ¬ (k = q ∨ k = q + 4 ∨ k = q + 5)) : (m_app q p o a M).1 k = M.1 k := by
  unfold m_app
  rw [row_ne (by omega), row_ne (by omega), row_ne (by omega)]
/-- the class's loop -/
theorem c_wv_l (hm : m < 6) (hl24 : l ≤ 24) (hd : dc O A l) (hw : mv O l ≤ 28) : ∀ (k i n : Nat) (M : fm_M), i + k = l → k < n → M.1 (25 + 15 * m) 5 = nI l → M.1 (25 + 15 * m + 4) = O → M.1 (25 + 15 * m + 5) = A → M.1 (31 + 15 * m) 5 = nI (mv O i) → (∀ j, j ≤ l → M.1 (38 + 15 * m) j = nI (mv O j)) → WS O A s0 (M.1 (31 + 15 * m + 4)) (M.1 (31 + 15 * m + 5)) i → SS O s0 f0 (M.1 (37 + 15 * m)) i → ∃ M', h_Method_weaveFrom_40 n (24 + 15 * m) (nI (s0 + (mv O i - i))) (nI i) M = h_Method_weaveFrom_139 100000 (24 + 15 * m) (nI (s0 + (mv O l - l))) 0 M' ∧ M'.2 = M.2 ∧ (∀ q, ¬ (q = 31 + 15 * m ∨ q = 31 + 15 * m + 4 ∨ q = 31 + 15 * m + 5 ∨ q = 37 + 15 * m) → M'.1 q = M.1 q) ∧ (∀ z, z ≠ 5 → M'.1 (31 + 15 * m) z = M.1 (31 + 15 * m) z) ∧ M'.1 (31 + 15 * m) 5 = nI (mv O l) ∧ WS O A s0 (M'.1 (31 + 15 * m + 4)) (M'.1 (31 + 15 * m + 5)) l ∧ SS O s0 f0 (M'.1 (37 + 15 * m)) l
  | 0, i, n + 1, M, hi, _, hl, hO, hA, h5, hp, hW, hS => by
    have : i = l := by omega
    subst this
    refine ⟨M, ?_, rfl, fun _ _ => rfl, fun _ _ => rfl, h5, hW, hS⟩
    rw [h_Method_weaveFrom_40, gr_m0 m hm, ob_e, gi_e (cd_o m hm).1, ob_e, hl, if_pos (nI_le (Nat.le_refl _) (by omega))]
  | k + 1, i, n + 1, M, hi, hn, hl, hO, hA, h5, hp, hW, hS => by
    have hil : i < l := by omega
    have hlt := mv_lt (O := O) hil
    have hge := mv_ge (O := O) i
    obtain ⟨o, o1, o2, o3⟩ := hd i hil
    generalize hM1 : m_app (31 + 15 * m) (mv O i) (O i) (aw O A i) M = M1
    have r1 : ∀ q, ¬ (q = 31 + 15 * m ∨ q = 31 + 15 * m + 4 ∨ q = 31 + 15 * m + 5) → M1.1 q = M.1 q := fun q hq => by rw [← hM1]; exact app_o hq
    have r2 : ∀ z, M1.1 (31 + 15 * m) z = if z = 5 then nI (mv O i + 1) else M.1 (31 + 15 * m) z := fun z => by rw [← hM1]; exact app_q
    have r4 : ∀ z, M1.1 (31 + 15 * m + 4) z = if z = mv O i then O i else M.1 (31 + 15 * m + 4) z := fun z => by rw [← hM1]; exact app_4
    have r5 : ∀ z, M1.1 (31 + 15 * m + 5) z = if z = mv O i then aw O A i else M.1 (31 + 15 * m + 5) z := fun z => by rw [← hM1]; exact app_5
    have r0 : M1.2 = M.2 := by rw [← hM1]; rfl
    have pre : h_Method_weaveFrom_40 (n + 1) (24 + 15 * m) (nI (s0 + (mv O i - i))) (nI i) M = j_Method_weaveFrom_98 (h_Method_weaveFrom_40 n) (24 + 15 * m) (nI (s0 + (mv O i - i))) (nI i) (O i) (31 + 15 * m) (O i) (aw O A i) M := by
      rw [h_Method_weaveFrom_40, gr_m0 m hm, ob_e, gi_e (cd_o m hm).1, ob_e, hl, if_neg (nI_ge hil (by omega)), ob_e, (cd_o m hm).2.1, ob_e, ai_n (cd_o m hm).2.2.2.2.2.2.1 (by omega) (by decide), ob_e, ob_e, (cd_o m hm).2.2.1, ob_e, ai_n (cd_o m hm).2.2.2.2.2.2.2.1 (by omega) (by decide), ob_e, gr_m1 m hm, ob_e, hO, hA, o2, e_brn (by omega), bd_e]
      unfold aw
      rw [o2]
      by_cases hb : o = 8 ∨ o = 9 ∨ o = 10
      · obtain ⟨x, x1, x2⟩ := o3 hb
        have hb2 : nI o = 8 ∨ nI o = 9 ∨ nI o = 10 := by
          rcases hb with h9 | h9 | h9 <;> subst h9
          · exact Or.inl rfl
          · exact Or.inr (Or.inl rfl)
          · exact Or.inr (Or.inr rfl)
        rw [if_pos hb, if_neg (by decide), ck_e (cl_m m hm), ob_e, if_pos hb2, x2, e_place hm (by omega), bd_e, hp x (by omega), oN_n (by omega)]
      · have hb2 : ¬ (nI o = 8 ∨ nI o = 9 ∨ nI o = 10) := by
          intro h9
          apply hb
          rcases h9 with h9 | h9 | h9
          · exact Or.inl ((nI_eq (b := 8) (by omega) (by decide)).mp h9)
          · exact Or.inr (Or.inl ((nI_eq (b := 9) (by omega) (by decide)).mp h9))
          · exact Or.inr (Or.inr ((nI_eq (b := 10) (by omega) (by decide)).mp h9))
        rw [if_neg hb, if_pos rfl, if_neg hb2]
    rw [pre]
    unfold j_Method_weaveFrom_98 j_Method_weaveFrom_131
    rw [ck_e (cd_w m hm).1, ob_e, e_app (cd_w m hm) h5 (by decide) (by omega), bd_e, hM1, e_mko, bd_e]
    by_cases hk : O i = 11 ∨ O i = 12
    · have hnx := mv_next (O := O) hil hk
      have hs1 := mv_2 (O := O) hk
      generalize hM2 : m_app (31 + 15 * m) (mv O i + 1) 16 (nI (s0 + (mv O i - i))) M1 = M2
      have q0 : (fm_sI M2 (37 + 15 * m) i (nI (s0 + (mv O i - i)))).2 = M.2 := by
        show M2.2 = M.2
        rw [← hM2]
        exact r0
      have q1 : ∀ q, ¬ (q = 31 + 15 * m ∨ q = 31 + 15 * m + 4 ∨ q = 31 + 15 * m + 5 ∨ q = 37 + 15 * m) → (fm_sI M2 (37 + 15 * m) i (nI (s0 + (mv O i - i)))).1 q = M.1 q := fun q hq => by rw [row_ne (by omega), ← hM2, app_o (by omega), r1 q (by omega)]
      have q2 : ∀ z, (fm_sI M2 (37 + 15 * m) i (nI (s0 + (mv O i - i)))).1 (31 + 15 * m) z = if z = 5 then nI (mv O i + 1 + 1) else M.1 (31 + 15 * m) z := fun z => by
        rw [row_ne (by omega), ← hM2, app_q]
        by_cases hz : z = 5
        · rw [if_pos hz, if_pos hz]
        · rw [if_neg hz, if_neg hz, r2, if_neg hz]
      have q4 : ∀ z, (fm_sI M2 (37 + 15 * m) i (nI (s0 + (mv O i - i)))).1 (31 + 15 * m + 4) z = if z = mv O i + 1 then 16 else if z = mv O i then O i else M.1 (31 + 15 * m + 4) z := fun z => by rw [row_ne (by omega), ← hM2, app_4, r4]
      have q5 : ∀ z, (fm_sI M2 (37 + 15 * m) i (nI (s0 + (mv O i - i)))).1 (31 + 15 * m + 5) z = if z = mv O i + 1 then nI (s0 + (mv O i - i)) else if z = mv O i then aw O A i else M.1 (31 + 15 * m + 5) z := fun z => by rw [row_ne (by omega), ← hM2, app_5, r5]
      have q7 : ∀ z, (fm_sI M2 (37 + 15 * m) i (nI (s0 + (mv O i - i)))).1 (37 + 15 * m) z = if z = i then nI (s0 + (mv O i - i)) else M.1 (37 + 15 * m) z := fun z => by
        rw [sI_r]
        by_cases hz : z = i
        · rw [if_pos ⟨rfl, hz⟩, if_pos hz]
        · rw [if_neg (fun h => hz h.2), if_neg hz, ← hM2, app_o (by omega), r1 _ (by omega)]
      obtain ⟨M', g1, g2, g3, g4, g5, g6, g7⟩ := c_wv_l hm hl24 hd hw k (i + 1) n (fm_sI M2 (37 + 15 * m) i (nI (s0 + (mv O i - i)))) (by omega) (by omega) (by rw [q1 _ (by omega)]; exact hl) (by rw [q1 _ (by omega)]; exact hO) (by rw [q1 _ (by omega)]; exact hA) (by rw [q2, if_pos rfl, hs1]) (fun j hj => by rw [q1 _ (by omega)]; exact hp j hj) (WS_m hW hk q4 q5) (SS_m hS hk q7)
      refine ⟨M', ?_, g2.trans q0, fun q hq => (g3 q hq).trans (q1 q hq), fun z hz => (g4 z hz).trans (by rw [q2, if_neg hz]), g5, g6, g7⟩
      rw [if_pos hk, if_neg (by decide), gr_m1 m hm, ob_e, ck_e (cd_w m hm).1, ob_e, e_app (cd_w m hm) (l := mv O i + 1) (by rw [r2, if_pos rfl]) (by decide) (by omega), bd_e, hM2, gr_m2 m hm, ob_e, si_n (an_m2 m hm) (by omega) (by decide), ob_e, nI_1, nI_1, show s0 + (mv O i - i) + 1 = s0 + (mv O (i + 1) - (i + 1)) by omega]
      exact g1
    · have hs1 := mv_1 (O := O) hk
      obtain ⟨M', g1, g2, g3, g4, g5, g6, g7⟩ := c_wv_l hm hl24 hd hw k (i + 1) n M1 (by omega) (by omega) (by rw [r1 _ (by omega)]; exact hl) (by rw [r1 _ (by omega)]; exact hO) (by rw [r1 _ (by omega)]; exact hA) (by rw [r2, if_pos rfl, hs1]) (fun j hj => by rw [r1 _ (by omega)]; exact hp j hj) (WS_n hW hk r4 r5) (SS_n hS hk (fun z => by rw [r1 _ (by omega)]))
      refine ⟨M', ?_, g2.trans r0, fun q hq => (g3 q hq).trans (r1 q (by omega)), fun z hz => (g4 z hz).trans (by rw [r2, if_neg hz]), g5, g6, g7⟩
      rw [if_neg hk, if_pos rfl, nI_1, show s0 + (mv O i - i) = s0 + (mv O (i + 1) - (i + 1)) by omega]
      exact g1
/-- the reference's loop -/
theorem m_wv_l (hm : m < 6) (hl24 : l ≤ 24) (hd : dc O A l) (hw : mv O l ≤ 28) (hs0 : s0 ≤ 100) : ∀ (k i n : Nat) (N : fm_M), i + k = l → k < n → N.1 181 m = nI l → (∀ j, j < l → N.1 182 (24 * m + j) = O j) → (∀ j, j < l → N.1 183 (24 * m + j) = A j) → N.1 174 23 = nI (s0 + (mv O i - i)) → WS O A s0 (fun w => N.1 187 (28 * m + w)) (fun w => N.1 188 (28 * m + w)) i → SS O s0 f0 (fun w => N.1 190 (24 * m + w)) i → ∃ N', h_Mo_weaveOne_30 n 174 (nI m) (nI (mv O l)) (nI i) N = h_Mo_weaveOne_187 100000 174 (nI m) 0 (fm_sI N' 186 m (nI (mv O l))) ∧ N'.2 = N.2 ∧ (∀ q, ¬ (q = 174 ∨ q = 187 ∨ q = 188 ∨ q = 190) → N'.1 q = N.1 q) ∧ (∀ z, z ≠ 23 → N'.1 174 z = N.1 174 z) ∧ N'.1 174 23 = nI (s0 + (mv O l - l)) ∧ (∀ z, ¬ (28 * m ≤ z ∧ z < 28 * m + 28) → N'.1 187 z = N.1 187 z ∧ N'.1 188 z = N.1 188 z) ∧ (∀ z, ¬ (24 * m ≤ z ∧ z < 24 * m + 24) → N'.1 190 z = N.1 190 z) ∧ WS O A s0 (fun w => N'.1 187 (28 * m + w)) (fun w => N'.1 188 (28 * m + w)) l ∧ SS O s0 f0 (fun w => N'.1 190 (24 * m + w)) l
  | 0, i, n + 1, N, hi, _, hl, hO, hA, h5, hW, hS => by
    have : i = l := by omega
    subst this
    refine ⟨N, ?_, rfl, fun _ _ => rfl, fun _ _ => rfl, h5, fun _ _ => ⟨rfl, rfl⟩, fun _ _ => rfl, hW, hS⟩
    rw [h_Mo_weaveOne_30, gr_174_13, ob_e, ai_n an_181 hm (by decide), ob_e, hl, if_pos (nI_le (Nat.le_refl _) (by omega)), gr_174_18, ob_e, si_n an_186 hm (by decide), ob_e]
  | k + 1, i, n + 1, N, hi, hn, hl, hO, hA, h5, hW, hS => by
    have hil : i < l := by omega
    have hlt := mv_lt (O := O) hil
    have hge := mv_ge (O := O) i
    have hgl := mv_ge (O := O) l
    obtain ⟨o, o1, o2, o3⟩ := hd i hil
    have hJ : (24 * nI m) + nI i = nI (24 * m + i) := by rw [show (24 : Int32) * nI m = nI (24 * m) from nI_mul 24 m, nI_add]
    have hK : (28 * nI m) + nI (mv O i) = nI (28 * m + mv O i) := by rw [show (28 : Int32) * nI m = nI (28 * m) from nI_mul 28 m, nI_add]
    generalize hN1 : fm_sI (fm_sI N 187 (28 * m + mv O i) (O i)) 188 (28 * m + mv O i) (aw O A i) = N1
    have r0 : N1.2 = N.2 := by rw [← hN1]; rfl
    have r1 : ∀ q, ¬ (q = 187 ∨ q = 188) → N1.1 q = N.1 q := fun q hq => by rw [← hN1, row_ne (by omega), row_ne (by omega)]
    have r4 : ∀ z, N1.1 187 z = if z = 28 * m + mv O i then O i else N.1 187 z := fun z => by
      rw [← hN1, sI_r, if_neg (by omega), sI_r]
      simp
    have r5 : ∀ z, N1.1 188 z = if z = 28 * m + mv O i then aw O A i else N.1 188 z := fun z => by
      rw [← hN1, sI_r]
      by_cases hz : z = 28 * m + mv O i
      · rw [if_pos ⟨rfl, hz⟩, if_pos hz]
      · rw [if_neg (fun h => hz h.2), if_neg hz, sI_r, if_neg (by omega)]
    have pre : h_Mo_weaveOne_30 (n + 1) 174 (nI m) (nI (mv O l)) (nI i) N = (bd (f_Mo_makes (O i) N1) fun x105 M103 => if x105 = 0 then j_Mo_weaveOne_172 (h_Mo_weaveOne_30 n) 174 (nI m) (nI (mv O l)) (nI i) M103 else (gr 174 10 19).bind fun q107 => (si q107 (nI (28 * m + mv O i) + 1) 16 M103).bind fun M109 => (gr 174 10 20).bind fun q111 => (gi 174 10 23 M109).bind fun x113 => (si q111 (nI (28 * m + mv O i) + 1) x113 M109).bind fun M115 => (gr 174 10 22).bind fun q117 => (gi 174 10 23 M115).bind fun x119 => (si q117 ((24 * nI m) + nI i) x119 M115).bind fun M121 => (gi 174 10 23 M121).bind fun x123 => (pi 174 10 23 (x123 + 1) M121).bind fun M125 => j_Mo_weaveOne_172 (h_Mo_weaveOne_30 n) 174 (nI m) (nI (mv O l)) (nI i) M125) := by
      rw [h_Mo_weaveOne_30, gr_174_13, ob_e, ai_n an_181 hm (by decide), ob_e, hl, if_neg (nI_ge hil (by omega)), gr_174_14, ob_e, hJ, ai_n an_182 (by omega) (by decide), ob_e, hO i hil, gr_174_15, ob_e, ai_n an_183 (by omega) (by decide), ob_e, hA i hil, ck_e cl_174, ob_e, e_moved (O := O) hm (by omega) (fun j hj => hO j (by omega)), bd_e, hK, gr_174_19, ob_e, si_n an_187 (by omega) (by decide), ob_e, gr_174_20, ob_e, show f_Mo_jumps (O i) (fm_sI N 187 (28 * m + mv O i) (O i)) = some (if o = 8 ∨ o = 9 ∨ o = 10 then 1 else 0, fm_sI N 187 (28 * m + mv O i) (O i)) by rw [o2]; exact e_jmp (by omega), bd_e]
      have hN1' : ∀ v, aw O A i = v → si 188 (nI (28 * m + mv O i)) v (fm_sI N 187 (28 * m + mv O i) (O i)) = some N1 := fun v hv => by rw [si_n an_188 (by omega) (by decide), ← hv, hN1]
      by_cases hb : o = 8 ∨ o = 9 ∨ o = 10
      · obtain ⟨x, x1, x2⟩ := o3 hb
        have hb2 : O i = 8 ∨ O i = 9 ∨ O i = 10 := by
          rw [o2]
          rcases hb with h9 | h9 | h9 <;> subst h9
          · exact Or.inl rfl
          · exact Or.inr (Or.inl rfl)
          · exact Or.inr (Or.inr rfl)
        have hav : aw O A i = nI (mv O x) := by unfold aw; rw [if_pos hb2, x2, oN_n (by omega)]
        rw [if_pos hb, if_neg (by decide), ob_e, x2, e_moved (O := O) hm (by omega) (fun j hj => by rw [row_ne (by decide)]; exact hO j (by omega)), bd_e]
        unfold j_Mo_weaveOne_114
        rw [hN1' _ hav, ob_e, gr_174_19, gr_174_20, hJ]
      · have hb2 : ¬ (O i = 8 ∨ O i = 9 ∨ O i = 10) := by
          intro h9
          rw [o2] at h9
          apply hb
          rcases h9 with h9 | h9 | h9
          · exact Or.inl ((nI_eq (b := 8) (by omega) (by decide)).mp h9)
          · exact Or.inr (Or.inl ((nI_eq (b := 9) (by omega) (by decide)).mp h9))
          · exact Or.inr (Or.inr ((nI_eq (b := 10) (by omega) (by decide)).mp h9))
        have hav : aw O A i = A i := by unfold aw; rw [if_neg hb2]
        rw [if_neg hb, if_pos rfl]
        unfold j_Mo_weaveOne_114
        rw [hN1' _ hav, ob_e, gr_174_19, gr_174_20, hJ]
    rw [pre, e_mmk, bd_e]
    unfold j_Mo_weaveOne_172
    by_cases hk : O i = 11 ∨ O i = 12
    · have hnx := mv_next (O := O) hil hk
      have hs1 := mv_2 (O := O) hk
      generalize hN2 : fm_sI (fm_sI (fm_sI (fm_sI N1 187 (28 * m + mv O i + 1) 16) 188 (28 * m + mv O i + 1) (nI (s0 + (mv O i - i)))) 190 (24 * m + i) (nI (s0 + (mv O i - i)))) 174 23 (nI (s0 + (mv O i - i) + 1)) = N2
      have e0 : N1.1 174 23 = nI (s0 + (mv O i - i)) := by rw [r1 174 (by omega)]; exact h5
      have e1 : (fm_sI N1 187 (28 * m + mv O i + 1) 16).1 174 23 = nI (s0 + (mv O i - i)) := by rw [row_ne (by decide)]; exact e0
      have e2 : (fm_sI (fm_sI N1 187 (28 * m + mv O i + 1) 16) 188 (28 * m + mv O i + 1) (nI (s0 + (mv O i - i)))).1 174 23 = nI (s0 + (mv O i - i)) := by rw [row_ne (by decide)]; exact e1
      have e3 : (fm_sI (fm_sI (fm_sI N1 187 (28 * m + mv O i + 1) 16) 188 (28 * m + mv O i + 1) (nI (s0 + (mv O i - i)))) 190 (24 * m + i) (nI (s0 + (mv O i - i)))).1 174 23 = nI (s0 + (mv O i - i)) := by rw [row_ne (by decide)]; exact e2
      have q0 : N2.2 = N.2 := by rw [← hN2]; exact r0
      have q1 : ∀ q, ¬ (q = 174 ∨ q = 187 ∨ q = 188 ∨ q = 190) → N2.1 q = N.1 q := fun q hq => by rw [← hN2, row_ne (by omega), row_ne (by omega), row_ne (by omega), row_ne (by omega), r1 q (by omega)]
      have q2 : ∀ z, N2.1 174 z = if z = 23 then nI (s0 + (mv O i - i) + 1) else N.1 174 z := fun z => by
        rw [← hN2, sI_r]
        by_cases hz : z = 23
        · rw [if_pos ⟨rfl, hz⟩, if_pos hz]
        · rw [if_neg (fun h => hz h.2), if_neg hz, row_ne (by decide), row_ne (by decide), row_ne (by decide), r1 174 (by omega)]
      have q4 : ∀ z, N2.1 187 z = if z = 28 * m + mv O i + 1 then 16 else if z = 28 * m + mv O i then O i else N.1 187 z := fun z => by
        rw [← hN2, row_ne (by decide), row_ne (by decide), row_ne (by decide), sI_r, r4]
        simp
      have q5 : ∀ z, N2.1 188 z = if z = 28 * m + mv O i + 1 then nI (s0 + (mv O i - i)) else if z = 28 * m + mv O i then aw O A i else N.1 188 z := fun z => by
        rw [← hN2, row_ne (by decide), row_ne (by decide), sI_r]
        by_cases hz : z = 28 * m + mv O i + 1
        · rw [if_pos ⟨rfl, hz⟩, if_pos hz]
        · rw [if_neg (fun h => hz h.2), if_neg hz, row_ne (by decide), r5]
      have q9 : ∀ z, N2.1 190 z = if z = 24 * m + i then nI (s0 + (mv O i - i)) else N.1 190 z := fun z => by
        rw [← hN2, row_ne (by decide), sI_r]
        by_cases hz : z = 24 * m + i
        · rw [if_pos ⟨rfl, hz⟩, if_pos hz]
        · rw [if_neg (fun h => hz h.2), if_neg hz, row_ne (by decide), row_ne (by decide), r1 190 (by omega)]
      obtain ⟨N', g1, g2, g3, g4, g5, g6, g7, g8, g9⟩ := m_wv_l hm hl24 hd hw hs0 k (i + 1) n N2 (by omega) (by omega) (by rw [q1 _ (by omega)]; exact hl) (fun j hj => by rw [q1 _ (by omega)]; exact hO j hj) (fun j hj => by rw [q1 _ (by omega)]; exact hA j hj) (by rw [q2, if_pos rfl, hs1]; congr 1; omega) (WS_m hW hk (fun z => by
          show N2.1 187 (28 * m + z) = _
          rw [q4]
          by_cases h1 : z = mv O i + 1
          · rw [if_pos h1, if_pos (by omega)]
          · rw [if_neg h1, if_neg (by omega)]
            by_cases h2 : z = mv O i
            · rw [if_pos h2, if_pos (by omega)]
            · rw [if_neg h2, if_neg (by omega)]) (fun z => by
          show N2.1 188 (28 * m + z) = _
          rw [q5]
          by_cases h1 : z = mv O i + 1
          · rw [if_pos h1, if_pos (by omega)]
          · rw [if_neg h1, if_neg (by omega)]
            by_cases h2 : z = mv O i
            · rw [if_pos h2, if_pos (by omega)]
            · rw [if_neg h2, if_neg (by omega)])) (SS_m hS hk (fun z => by
          show N2.1 190 (24 * m + z) = _
          rw [q9]
          by_cases h2 : z = i
          · rw [if_pos h2, if_pos (by omega)]
          · rw [if_neg h2, if_neg (by omega)]))
      refine ⟨N', ?_, g2.trans q0, fun q hq => (g3 q hq).trans (q1 q hq), fun z hz => (g4 z hz).trans (by rw [q2, if_neg hz]), g5, fun z hz => ⟨(g6 z hz).1.trans (by rw [q4, if_neg (by omega), if_neg (by omega)]), (g6 z hz).2.trans (by rw [q5, if_neg (by omega), if_neg (by omega)])⟩, fun z hz => (g7 z hz).trans (by rw [q9, if_neg (by omega)]), g8, g9⟩
      rw [if_pos hk, if_neg (by decide), gr_174_19, ob_e, nI_1, si_n an_187 (by omega) (by decide), ob_e, gr_174_20, ob_e, gi_e cl_174, ob_e, e1, si_n an_188 (by omega) (by decide), ob_e, gr_174_22, ob_e, gi_e cl_174, ob_e, e2, hJ, si_n an_190 (by omega) (by decide), ob_e, gi_e cl_174, ob_e, e3, nI_1, pi_e cl_174, ob_e, hN2, nI_1]
      exact g1
    · have hs1 := mv_1 (O := O) hk
      obtain ⟨N', g1, g2, g3, g4, g5, g6, g7, g8, g9⟩ := m_wv_l hm hl24 hd hw hs0 k (i + 1) n N1 (by omega) (by omega) (by rw [r1 _ (by omega)]; exact hl) (fun j hj => by rw [r1 _ (by omega)]; exact hO j hj) (fun j hj => by rw [r1 _ (by omega)]; exact hA j hj) (by rw [r1 174 (by omega), h5, hs1]; congr 1; omega) (WS_n hW hk (fun z => by
          show N1.1 187 (28 * m + z) = _
          rw [r4]
          by_cases h2 : z = mv O i
          · rw [if_pos h2, if_pos (by omega)]
          · rw [if_neg h2, if_neg (by omega)]) (fun z => by
          show N1.1 188 (28 * m + z) = _
          rw [r5]
          by_cases h2 : z = mv O i
          · rw [if_pos h2, if_pos (by omega)]
          · rw [if_neg h2, if_neg (by omega)])) (SS_n hS hk (fun z => by
          show N1.1 190 (24 * m + z) = N.1 190 (24 * m + z)
          rw [r1 190 (by omega)]))
      refine ⟨N', ?_, g2.trans r0, fun q hq => (g3 q hq).trans (r1 q (by omega)), fun z hz => (g4 z hz).trans (by rw [r1 174 (by omega)]), g5, fun z hz => ⟨(g6 z hz).1.trans (by rw [r4, if_neg (by omega)]), (g6 z hz).2.trans (by rw [r5, if_neg (by omega)])⟩, fun z hz => (g7 z hz).trans (by rw [r1 190 (by omega)]), g8, g9⟩
      rw [if_neg hk, if_pos rfl, nI_1]
      exact g1
end WV
