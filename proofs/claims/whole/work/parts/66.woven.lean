/-! one method is woven: ranges, and what it is then -/
section WV2
variable {O A B E H O' A' B' E' H' : Nat → Int32} {s0 m l r i k n s : Nat} {M N : fm_M} {P : Nat → Nat → Prop}
theorem apr_1 {q p z : Nat} {b e h : Int32} : (m_appr q p b e h M).1 (q + 1) z = if z = p then b else M.1 (q + 1) z := by
  unfold m_appr
  rw [row_ne (by omega), row_ne (by omega), row_ne (by omega), sI_r]
  simp
theorem apr_2 {q p z : Nat} {b e h : Int32} : (m_appr q p b e h M).1 (q + 2) z = if z = p then e else M.1 (q + 2) z := by
  unfold m_appr
  rw [row_ne (by omega), row_ne (by omega), sI_r]
  by_cases hz : z = p
  · rw [if_pos ⟨rfl, hz⟩, if_pos hz]
  · rw [if_neg (fun h => hz h.2), if_neg hz, row_ne (by omega)]
theorem apr_3 {q p z : Nat} {b e h : Int32} : (m_appr q p b e h M).1 (q + 3) z = if z = p then h else M.1 (q + 3) z := by
  unfold m_appr
  rw [row_ne (by omega), sI_r]
  by_cases hz : z = p
  · rw [if_pos ⟨rfl, hz⟩, if_pos hz]
  · rw [if_neg (fun h => hz h.2), if_neg hz, row_ne (by omega), row_ne (by omega)]
theorem apr_q {q p z : Nat} {b e h : Int32} : (m_appr q p b e h M).1 q z = if z = 6 then nI (p + 1) else M.1 q z := by
  unfold m_appr
  rw [sI_r]
  by_cases hz : z = 6
  · rw [if_pos ⟨rfl, hz⟩, if_pos hz]
  · rw [if_neg (fun h => hz h.2), if_neg hz, row_ne (by omega), row_ne (by omega), row_ne (by omega)]
theorem apr_o {q p k : Nat} {b e h : Int32} (hk : ¬ (k = q ∨ k = q + 1 ∨ k = q + 2 ∨ k = q + 3)) : (m_appr q p b e h M).1 k = M.1 k := by
  unfold m_appr
  rw [row_ne (by omega), row_ne (by omega), row_ne (by omega), row_ne (by omega)]
/-- the ranges' places -/
def rv (B E H : Nat → Int32) (l r : Nat) : Prop := ∀ i, i < r → ∃ b e h, B i = nI b ∧ E i = nI e ∧ H i = nI h ∧ b ≤ l ∧ e ≤ l ∧ h ≤ l
def RR (O B E H f1 f2 f3 : Nat → Int32) (i : Nat) : Prop := ∀ j, j < i → f1 j = nI (mv O (oN (B j))) ∧ f2 j = nI (mv O (oN (E j))) ∧ f3 j = nI (mv O (oN (H j)))
theorem c_rg_l {x : Int32} (hm : m < 6) (hr2 : r ≤ 2) (hl24 : l ≤ 24) (hv : rv B E H l r) : ∀ (k i n : Nat) (M : fm_M), i + k = r → k < n → M.1 (25 + 15 * m) 6 = nI r → M.1 (25 + 15 * m + 1) = B → M.1 (25 + 15 * m + 2) = E → M.1 (25 + 15 * m + 3) = H → M.1 (31 + 15 * m) 6 = nI i → (∀ j, j ≤ l → M.1 (38 + 15 * m) j = nI (mv O j)) → RR O B E H (M.1 (31 + 15 * m + 1)) (M.1 (31 + 15 * m + 2)) (M.1 (31 + 15 * m + 3)) i → ∃ M', h_Method_weaveFrom_139 n (24 + 15 * m) x (nI i) M = some (x, M') ∧ M'.2 = M.2 ∧ (∀ q, ¬ (q = 31 + 15 * m ∨ q = 31 + 15 * m + 1 ∨ q = 31 + 15 * m + 2 ∨ q = 31 + 15 * m + 3) → M'.1 q = M.1 q) ∧ (∀ z, z ≠ 6 → M'.1 (31 + 15 * m) z = M.1 (31 + 15 * m) z) ∧ M'.1 (31 + 15 * m) 6 = nI r ∧ RR O B E H (M'.1 (31 + 15 * m + 1)) (M'.1 (31 + 15 * m + 2)) (M'.1 (31 + 15 * m + 3)) r
  | 0, i, n + 1, M, hi, _, hr, hB, hE, hH, h6, hp, hR => by
    have : i = r := by omega
    subst this
    refine ⟨M, ?_, rfl, fun _ _ => rfl, fun _ _ => rfl, h6, hR⟩
    rw [h_Method_weaveFrom_139, gr_m0 m hm, ob_e, gi_e (cd_o m hm).1, ob_e, hr, if_pos (nI_le (Nat.le_refl _) (by omega))]
  | k + 1, i, n + 1, M, hi, hn, hr, hB, hE, hH, h6, hp, hR => by
    obtain ⟨b, e, h, v1, v2, v3, v4, v5, v6⟩ := hv i (by omega)
    generalize hM1 : m_appr (31 + 15 * m) i (nI (mv O b)) (nI (mv O e)) (nI (mv O h)) M = M1
    have r0 : M1.2 = M.2 := by rw [← hM1]; rfl
    have r1 : ∀ q, ¬ (q = 31 + 15 * m ∨ q = 31 + 15 * m + 1 ∨ q = 31 + 15 * m + 2 ∨ q = 31 + 15 * m + 3) → M1.1 q = M.1 q := fun q hq => by rw [← hM1]; exact apr_o hq
    have r2 : ∀ z, M1.1 (31 + 15 * m) z = if z = 6 then nI (i + 1) else M.1 (31 + 15 * m) z := fun z => by rw [← hM1]; exact apr_q
    obtain ⟨M', g1, g2, g3, g4, g5, g6⟩ := c_rg_l (x := x) hm hr2 hl24 hv k (i + 1) n M1 (by omega) (by omega) (by rw [r1 _ (by omega)]; exact hr) (by rw [r1 _ (by omega)]; exact hB) (by rw [r1 _ (by omega)]; exact hE) (by rw [r1 _ (by omega)]; exact hH) (by rw [r2, if_pos rfl]) (fun j hj => by rw [r1 _ (by omega)]; exact hp j hj) (fun j hj => by
      rw [← hM1, apr_1, apr_2, apr_3]
      by_cases hji : j = i
      · rw [if_pos hji, if_pos hji, if_pos hji, hji, v1, v2, v3, oN_n (by omega), oN_n (by omega), oN_n (by omega)]
        exact ⟨rfl, rfl, rfl⟩
      · rw [if_neg hji, if_neg hji, if_neg hji]
        exact hR j (by omega))
    refine ⟨M', ?_, g2.trans r0, fun q hq => (g3 q hq).trans (r1 q hq), fun z hz => (g4 z hz).trans (by rw [r2, if_neg hz]), g5, g6⟩
    have cd := cd_o m hm
    rw [h_Method_weaveFrom_139, gr_m0 m hm, ob_e, gi_e (cd_o m hm).1, ob_e, hr, if_neg (nI_ge (by omega) (by omega)), gr_m1 m hm, ob_e, ob_e, cd.2.2.2.1, ob_e, ai_n cd.2.2.2.2.2.2.2.2.1 (by omega) (by decide), ob_e, hB, v1, ck_e (cl_m m hm), ob_e, e_place hm (by omega), bd_e, hp b v4, ob_e, cd.2.2.2.2.1, ob_e, ai_n cd.2.2.2.2.2.2.2.2.2.1 (by omega) (by decide), ob_e, hE, v2, ob_e, e_place hm (by omega), bd_e, hp e v5, ob_e, cd.2.2.2.2.2.1, ob_e, ai_n cd.2.2.2.2.2.2.2.2.2.2.1 (by omega) (by decide), ob_e, hH, v3, ob_e, e_place hm (by omega), bd_e, hp h v6, ck_e (cd_w m hm).1, ob_e, e_appr (cd_w m hm) h6 (by omega), bd_e, hM1, nI_1]
    exact g1
theorem m_rg_l (hm : m < 6) (hr2 : r ≤ 2) (hl24 : l ≤ 24) : ∀ (k i n : Nat) (N : fm_M), i + k = 3 * r → k < n → N.1 184 m = nI r → (∀ j, j < l → N.1 182 (24 * m + j) = O j) → (∀ z, z < 3 * r → ∃ v, v ≤ l ∧ N.1 185 (6 * m + z) = nI v) → (∀ z, z < i → N.1 189 (6 * m + z) = nI (mv O (oN (N.1 185 (6 * m + z))))) → ∃ N', h_Mo_weaveOne_187 n 174 (nI m) (nI i) N = some N' ∧ N'.2 = N.2 ∧ (∀ q, q ≠ 189 → N'.1 q = N.1 q) ∧ (∀ z, ¬ (6 * m ≤ z ∧ z < 6 * m + 6) → N'.1 189 z = N.1 189 z) ∧ ∀ z, z < 3 * r → N'.1 189 (6 * m + z) = nI (mv O (oN (N.1 185 (6 * m + z))))
  | 0, i, n + 1, N, hi, _, hr, hO, hv, hR => by
    have : i = 3 * r := by omega
    subst this
    refine ⟨N, ?_, rfl, fun _ _ => rfl, fun _ _ => rfl, hR⟩
    rw [h_Mo_weaveOne_187, gr_174_16, ob_e, ai_n an_184 hm (by decide), ob_e, hr, show (3 : Int32) * nI r = nI (3 * r) from nI_mul 3 r, if_pos (nI_le (Nat.le_refl _) (by omega))]
  | k + 1, i, n + 1, N, hi, hn, hr, hO, hv, hR => by
    obtain ⟨v, v1, v2⟩ := hv i (by omega)
    have hJ : (6 * nI m) + nI i = nI (6 * m + i) := by rw [show (6 : Int32) * nI m = nI (6 * m) from nI_mul 6 m, nI_add]
    have r1 : ∀ q, q ≠ 189 → (fm_sI N 189 (6 * m + i) (nI (mv O v))).1 q = N.1 q := fun q hq => row_ne hq
    obtain ⟨N', g1, g2, g3, g4, g5⟩ := m_rg_l hm hr2 hl24 k (i + 1) n (fm_sI N 189 (6 * m + i) (nI (mv O v))) (by omega) (by omega) (by rw [r1 _ (by omega)]; exact hr) (fun j hj => by rw [r1 _ (by omega)]; exact hO j hj) (fun z hz => by rw [r1 _ (by omega)]; exact hv z hz) (fun z hz => by
      rw [r1 185 (by omega), sI_r]
      by_cases hzi : z = i
      · rw [if_pos ⟨rfl, by omega⟩, hzi, v2, oN_n (by omega)]
      · rw [if_neg (by omega)]
        exact hR z (by omega))
    rw [r1 185 (by omega)] at g5
    refine ⟨N', ?_, g2, fun q hq => (g3 q hq).trans (r1 q hq), fun z hz => (g4 z hz).trans (by rw [sI_r, if_neg (by omega)]), g5⟩
    rw [h_Mo_weaveOne_187, gr_174_16, ob_e, ai_n an_184 hm (by decide), ob_e, hr, show (3 : Int32) * nI r = nI (3 * r) from nI_mul 3 r, if_neg (nI_ge (by omega) (by omega)), gr_174_21, ob_e, gr_174_17, ob_e, hJ, ai_n an_185 (by omega) (by decide), ob_e, v2, ck_e cl_174, ob_e, e_moved (O := O) hm (by omega) (fun j hj => hO j (by omega)), bd_e, si_n an_189 (by omega) (by decide), ob_e, nI_1]
    exact g1
theorem dc_of (hw : WF O A B E H l r k n 0 P) : dc O A l := by
  intro i hi
  obtain ⟨op, o1, o2, -, o4, -, -, -, o8⟩ := hw.2.1 i hi
  refine ⟨op, ?_, o2, fun hb => o4 (by omega)⟩
  rcases Nat.lt_or_ge op 16 with h9 | h9
  · omega
  · obtain ⟨x, hx, -⟩ := o8 (by omega)
    exact absurd hx (Nat.not_lt_zero _)
theorem rv_of (hw : WF O A B E H l r k n 0 P) : rv B E H l r := by
  intro i hi
  obtain ⟨b, e, h, a1, a2, a3, a4, a5, a6⟩ := hw.2.2.1 i hi
  exact ⟨b, e, h, a1, a2, a3, by omega, a5, by omega⟩
theorem last_of (hw : WF O A B E H l r k n s P) : ¬ (O (l - 1) = 11 ∨ O (l - 1) = 12) := by
  have h := hw.2.2.2.1
  rintro (h9 | h9) <;> rw [h9] at h <;> exact absurd h (by decide)
/-- how many sites a method may get -/
theorem mv_13 (hw : WF O A B E H l r k n s P) (h28 : mv O l ≤ 28) : mv O l - l ≤ 13 := by
  have h1 := mv_1 (last_of hw)
  have h0 := hw.1
  rw [show l - 1 + 1 = l by omega] at h1
  have h2 := mv_ge (O := O) (l - 1)
  have h3 := mv_ge (O := O) l
  omega
theorem mk_n {o : Nat} (ho : o ≤ 16) : (nI o = 11 ∨ nI o = 12) ↔ (o = 11 ∨ o = 12) := by
  constructor
  · rintro (h | h)
    · exact Or.inl ((nI_eq (b := 11) (by omega) (by decide)).mp h)
    · exact Or.inr ((nI_eq (b := 12) (by omega) (by decide)).mp h)
  · rintro (h | h)
    · exact Or.inl (by rw [h]; rfl)
    · exact Or.inr (by rw [h]; rfl)
theorem br_n {o : Nat} (ho : o ≤ 16) : (nI o = 8 ∨ nI o = 9 ∨ nI o = 10) ↔ (o = 8 ∨ o = 9 ∨ o = 10) := by
  constructor
  · rintro (h | h | h)
    · exact Or.inl ((nI_eq (b := 8) (by omega) (by decide)).mp h)
    · exact Or.inr (Or.inl ((nI_eq (b := 9) (by omega) (by decide)).mp h))
    · exact Or.inr (Or.inr ((nI_eq (b := 10) (by omega) (by decide)).mp h))
  · rintro (h | h | h)
    · exact Or.inl (by rw [h]; rfl)
    · exact Or.inr (Or.inl (by rw [h]; rfl))
    · exact Or.inr (Or.inr (by rw [h]; rfl))
theorem WF_wv (hw : WF O A B E H l r k n 0 P) (hl24 : l ≤ 24) (h28 : mv O l ≤ 28) (h1 : WS O A s0 O' A' l) (hR : RR O B E H B' E' H' r) : WF O' A' B' E' H' (mv O l) r k n (s0 + (mv O l - l)) (fun w d => ∃ i, i < l ∧ w = mv O i ∧ P i d) := by
  have hd := dc_of hw
  obtain ⟨w0, w1, w2, w3, w4, w5⟩ := hw
  have hgl := mv_ge (O := O) l
  have hbig : ∀ x, x < 100 → oN (nI x) = x := fun x hx => oN_n (by omega)
  refine ⟨by omega, fun w hww => ?_, fun i hi => ?_, ?_, ⟨0, w0, rfl, w4⟩, fun w d hP => ?_⟩
  · obtain ⟨i, i1, i2⟩ := mv_cov l w hww
    obtain ⟨a, b, c⟩ := h1 i i1
    rcases i2 with i2 | ⟨i2, i3⟩
    · subst i2
      obtain ⟨op, o1, o2, o3, o4, o5, o6, o7, o8⟩ := w1 i i1
      obtain ⟨o', p1, p2, -⟩ := hd i i1
      have hop : op = o' := (nI_eq (by omega) (by omega)).mp (o2.symm.trans p2)
      rw [a, b]
      refine ⟨op, o1, o2, fun h => ?_, fun h => ?_, fun h => ?_, fun h => ?_, fun h => ?_, fun h => absurd h (by omega)⟩
      · unfold aw
        rw [o2, if_neg (fun h9 => by have := (br_n o1).mp h9; omega)]
        exact o3 h
      · obtain ⟨x, x1, x2⟩ := o4 h
        unfold aw
        rw [o2, if_pos ((br_n o1).mpr (by omega)), x2, hbig x (by omega)]
        exact ⟨mv O x, mv_lt x1, rfl⟩
      · unfold aw
        rw [o2, if_neg (fun h9 => by have := (br_n o1).mp h9; omega)]
        exact o5 h
      · unfold aw
        rw [o2, if_neg (fun h9 => by have := (br_n o1).mp h9; omega)]
        exact o6 h
      · unfold aw
        rw [o2, if_neg (fun h9 => by have := (br_n o1).mp h9; omega)]
        exact o7 h
    · subst i3
      rw [(c i2).1, (c i2).2]
      refine ⟨16, by decide, rfl, fun h => absurd h (by decide), fun h => absurd h (by decide), fun h => absurd h (by decide), fun h => absurd h (by decide), fun h => absurd h (by decide), fun _ => ⟨_, ?_, rfl⟩⟩
      have g1 := mv_next (O := O) i1 i2
      have g2 := mv_add (O := O) (i + 1) (l - (i + 1))
      rw [show i + 1 + (l - (i + 1)) = l by omega, mv_2 i2] at g2
      have g3 := mv_ge (O := O) i
      omega
  · obtain ⟨b, e, h, a1, a2, a3, a4, a5, a6⟩ := w2 i hi
    obtain ⟨r1, r2, r3⟩ := hR i hi
    rw [a1, hbig b (by omega)] at r1
    rw [a2, hbig e (by omega)] at r2
    rw [a3, hbig h (by omega)] at r3
    exact ⟨mv O b, mv O e, mv O h, r1, r2, r3, mv_lt a4, mv_le a5, mv_lt a6⟩
  · have hl1 : mv O l = mv O (l - 1) + 1 := by
      have := mv_1 (O := O) (i := l - 1) (by
        have h := w3
        rintro (h9 | h9) <;> rw [h9] at h <;> exact absurd h (by decide))
      rw [show l - 1 + 1 = l by omega] at this
      exact this
    rw [show mv O l - 1 = mv O (l - 1) by omega, (h1 (l - 1) (by omega)).1]
    exact w3
  · obtain ⟨i, i1, i2, i3⟩ := hP
    subst i2
    obtain ⟨f1, f2, f3, f4, f5, f6, f7⟩ := w5 i d i3
    obtain ⟨a, b, c⟩ := h1 i i1
    obtain ⟨o, o1, o2, o3⟩ := hd i i1
    have ho : oN (O i) = o := by rw [o2, hbig o (by omega)]
    refine ⟨mv_lt i1, by rw [a]; exact f2, by rw [a]; exact f3, f4, fun h9 => ?_, fun h9 => ?_, fun j hj h8 h9 => ?_⟩
    · rw [a] at h9 ⊢
      have hn0 : nx O l i = i + 1 := by
        unfold nx
        rw [if_neg]
        intro h8
        obtain ⟨o', p1, p2, -⟩ := hd (i + 1) h8.2.1
        have := (nI_eq (b := 16) (by omega) (by decide)).mp (p2.symm.trans h8.2.2)
        omega
      have hP' := f5 h9
      rw [hn0] at hP'
      have hil := (w5 _ _ hP').1
      refine ⟨i + 1, hil, ?_, hP'⟩
      unfold nx
      rw [a]
      by_cases hk : O i = 11 ∨ O i = 12
      · have hk2 : oN (O i) = 11 ∨ oN (O i) = 12 := by
          rw [ho]
          rw [o2] at hk
          exact (mk_n (by omega)).mp hk
        rw [if_pos ⟨hk2, by have := mv_next (O := O) i1 hk; omega, (c hk).1⟩, mv_2 hk]
      · have hk2 : ¬ (oN (O i) = 11 ∨ oN (O i) = 12) := by
          rw [ho]
          rw [o2] at hk
          exact fun h => hk ((mk_n (by omega)).mpr h)
        rw [if_neg (fun h => hk2 h.1), mv_1 hk]
    · rw [a] at h9 ⊢
      rw [ho] at h9
      obtain ⟨x, x1, x2⟩ := o3 (by omega)
      have hP' := f6 (by rw [ho]; exact h9)
      rw [x2, hbig x (by omega)] at hP'
      refine ⟨x, x1, ?_, hP'⟩
      rw [b]
      unfold aw
      rw [o2, if_pos ((br_n (by omega)).mpr (by omega)), x2, hbig x (by omega)]
      have := mv_lt (O := O) x1
      exact hbig _ (by omega)
    · obtain ⟨b', e, h, a1, a2, a3, a4, a5, a6⟩ := w2 j hj
      obtain ⟨r1, r2, r3⟩ := hR j hj
      have m1 := mv_le (O := O) (show b' ≤ l by omega)
      have m2 := mv_le (O := O) a5
      have m3' := mv_lt (O := O) a6
      rw [a1, hbig b' (by omega)] at r1
      rw [a2, hbig e (by omega)] at r2
      rw [a3, hbig h (by omega)] at r3
      rw [r1, hbig _ (by omega)] at h8
      rw [r2, hbig _ (by omega)] at h9
      have hP' := f7 j hj (by rw [a1, hbig b' (by omega)]; exact Nat.le_of_not_lt (fun h => by have := mv_lt (O := O) h; omega)) (by rw [a2, hbig e (by omega)]; exact mv_iff.mp h9)
      rw [a3, hbig h (by omega)] at hP'
      exact ⟨h, a6, by rw [r3, hbig _ (by omega)], hP'⟩
theorem WF_s {s' : Nat} (hw : WF O A B E H l r k n s P) (hs : s ≤ s') : WF O A B E H l r k n s' P := by
  obtain ⟨w0, w1, w2, w3, w4, w5⟩ := hw
  refine ⟨w0, fun p hp => ?_, w2, w3, w4, w5⟩
  obtain ⟨op, o1, o2, o3, o4, o5, o6, o7, o8⟩ := w1 p hp
  refine ⟨op, o1, o2, o3, o4, o5, o6, o7, fun h => ?_⟩
  obtain ⟨x, x1, x2⟩ := o8 h
  exact ⟨x, by omega, x2⟩
end WV2
