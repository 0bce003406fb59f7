/-! the verdict on a draft -/
theorem nmi1 {j : Nat} (h : j < 1000) : ¬ nI j = -1 := fun h9 => by
  have := congrArg Int32.toInt h9
  rw [nt (by omega)] at this
  exact absurd this (by show ¬ (j : Int) = -1; omega)
section VD
variable {n k l r : Nat} {Mc Mm : fm_M}
theorem fault2 (hd : DR n k l r Mc Mm) : ∃ fp Mc' Mm', f_Checker_faultOf 171 165 2 (nI n) Mc = some (fp, Mc') ∧ f_Mo_malformed 174 Mm = some (fp, Mm') ∧ ((fp = -1 ∧ ∃ P, WF (Mc.1 169) (Mc.1 170) (Mc.1 166) (Mc.1 167) (Mc.1 168) l r k n 0 P) ∨ (¬ fp = -1 ∧ ¬ fp < 0)) ∧ Mc'.2 = Mc.2 ∧ (∀ q, ¬ (q = 171 ∨ q = 172 ∨ q = 173) → Mc'.1 q = Mc.1 q) ∧ Mm'.2 = Mm.2 ∧ ∀ q, q ≠ 191 → Mm'.1 q = Mm.1 q := by
  obtain ⟨h1, h2, h3, h4, h5, h6, h7, h8, h9, h10, h11, h12, h13⟩ := id hd
  have early : ∀ j : Nat, j < 1000 → (bd (f_Checker_wrongArgument 165 2 (nI n) Mc) fun x112 M110 => if x112 = (-1) then bd (f_Checker_openEnd 165 M110) fun x116 M114 => j_Checker_faultOf_20 171 165 x116 M114 else j_Checker_faultOf_20 171 165 x112 M110) = some (nI j, Mc) → f_Mo_malformed 174 Mm = some (nI j, Mm) → ∃ fp Mc' Mm', f_Checker_faultOf 171 165 2 (nI n) Mc = some (fp, Mc') ∧ f_Mo_malformed 174 Mm = some (fp, Mm') ∧ ((fp = -1 ∧ ∃ P, WF (Mc.1 169) (Mc.1 170) (Mc.1 166) (Mc.1 167) (Mc.1 168) l r k n 0 P) ∨ (¬ fp = -1 ∧ ¬ fp < 0)) ∧ Mc'.2 = Mc.2 ∧ (∀ q, ¬ (q = 171 ∨ q = 172 ∨ q = 173) → Mc'.1 q = Mc.1 q) ∧ Mm'.2 = Mm.2 ∧ ∀ q, q ≠ 191 → Mm'.1 q = Mm.1 q := fun j hj a b => ⟨nI j, Mc, Mm, a, b, Or.inr ⟨nmi1 hj, nI_pos (by omega)⟩, rfl, fun _ _ => rfl, rfl, fun _ _ => rfl⟩
  have j20 : ∀ j : Nat, j < 1000 → j_Checker_faultOf_20 171 165 (nI j) Mc = some (nI j, Mc) := fun j hj => by
    unfold j_Checker_faultOf_20 j_Checker_faultOf_32
    rw [if_neg (nmi1 hj), if_neg (nmi1 hj)]
  by_cases hl0 : l = 0
  · subst hl0
    refine early 0 (by decide) ?_ ?_
    · unfold f_Checker_wrongArgument
      rw [gi_e cl_165, ob_e, h5, if_pos (by decide), bd_e, if_neg (by decide)]
      exact j20 0 (by decide)
    · unfold f_Mo_malformed
      rw [gi_e cl_174, ob_e, h8, if_pos (by decide)]
      rfl
  · have hlp : 0 < l := by omega
    have cw : ∀ v, h_Checker_wrongArgument_11 100000 165 2 (nI n) (nI 0) Mc = some v → f_Checker_wrongArgument 165 2 (nI n) Mc = some v := fun v hv => by
      unfold f_Checker_wrongArgument
      rw [gi_e cl_165, ob_e, h5, if_neg (nI_ne0 hlp (by omega))]
      exact hv
    have mw : f_Mo_malformed 174 Mm = h_Mo_malformed_11 100000 174 (nI 0) Mm := by
      unfold f_Mo_malformed
      rw [gi_e cl_174, ob_e, h8, if_neg (nI_ne0 hlp (by omega))]
      rfl
    rcases chk1 hd hlp l 0 100000 100000 (by omega) (by omega) (by omega) with ⟨j, j1, j2, j3⟩ | ⟨f1, f2, f3⟩
    · refine early j (by omega) ?_ ?_
      · rw [cw _ j2, bd_e, if_neg (nmi1 (by omega))]
        exact j20 j (by omega)
      · rw [mw]
        exact j3
    · obtain ⟨⟨oe, oe1, oe2⟩, oe3, -⟩ := h12 (l - 1) (by omega)
      have hop : f_Checker_openEnd 165 Mc = some (if oe = 8 ∨ oe = 14 ∨ oe = 15 then -1 else nI (l - 1), Mc) := by
        unfold f_Checker_openEnd
        rw [gi_e cl_165, ob_e, h5, ck_e cl_165, ob_e, show nI l - 1 = nI (l - 1) by rw [show (1 : Int32) = nI 1 from rfl, nI_sub (by omega)], e_op1 cd_d h5 (by decide) h3 (by omega), bd_e, show Mc.1 (165 + 4) (l - 1) = nI oe from oe2, e_cls (by omega), bd_e]
        by_cases hc : oe = 8 ∨ oe = 14 ∨ oe = 15
        · rw [if_pos hc, if_pos hc, if_neg (by decide)]
        · rw [if_neg hc, if_neg hc, if_pos rfl]
      have hme : h_Mo_malformed_11 100000 174 (nI 0) Mm = if oe = 8 ∨ oe = 14 ∨ oe = 15 then h_Mo_malformed_72 100000 174 (nI 0) Mm else some (nI (l - 1), Mm) := by
        rw [f3]
        unfold endM
        rw [oe3, oe2, e_gon (by omega), bd_e]
        by_cases hc : oe = 8 ∨ oe = 14 ∨ oe = 15
        · rw [if_pos hc, if_pos hc, if_pos rfl]
          rfl
        · rw [if_neg hc, if_neg hc, if_neg (by decide), gi_e cl_174, ob_e, h8, show nI l - 1 = nI (l - 1) by rw [show (1 : Int32) = nI 1 from rfl, nI_sub (by omega)]]
      by_cases hcl : oe = 8 ∨ oe = 14 ∨ oe = 15
      · rw [if_pos hcl] at hop hme
        rcases chk3 hd r 0 100000 100000 (by omega) (by omega) (by omega) with ⟨j, j1, j2, j3⟩ | ⟨g1, g2, g3⟩
        · refine early (24 + j) (by omega) ?_ ?_
          · rw [cw _ f2, bd_e, if_pos rfl, hop, bd_e]
            unfold j_Checker_faultOf_20 j_Checker_faultOf_32
            rw [if_pos rfl, show f_Checker_wrongRange 165 Mc = some (nI (24 + j), Mc) from j2, bd_e, if_neg (nmi1 (by omega))]
          · rw [mw, hme]
            exact j3
        · have hgd : gd (Mc.1 169) (Mc.1 170) (Mc.1 166) (Mc.1 167) (Mc.1 168) l r := ⟨hlp, h3, h4, fun i hi => by
            obtain ⟨o, o1, o2, o3⟩ := f1 i (by omega) hi
            exact ⟨o, o1, o2, fun hb => o3.2.1 (by omega)⟩, ⟨oe, hcl, oe2⟩, fun j hj => g1 j (by omega) hj⟩
          obtain ⟨Mc', c1, c2, c3⟩ := c_depth (M := Mc) hgd ⟨h5, h6, rfl, rfl, rfl, rfl, rfl⟩
          obtain ⟨Mm', d1, d2, d3⟩ := m_depth (N := Mm) hgd ⟨h8, h9, fun i hi => ⟨(h12 i hi).2.1, (h12 i hi).2.2⟩, h13⟩
          have cls : ∀ v, f_Checker_wrongDepth 171 165 Mc = some v → f_Checker_faultOf 171 165 2 (nI n) Mc = some v := fun v hv => by
            unfold f_Checker_faultOf
            rw [cw _ f2, bd_e, if_pos rfl, hop, bd_e]
            unfold j_Checker_faultOf_20 j_Checker_faultOf_32
            rw [if_pos rfl, show f_Checker_wrongRange 165 Mc = some (-1, Mc) from g2, bd_e, if_pos rfl, ck_e cl_171, ob_e, hv]
            rfl
          have mod : ∀ v, f_Mo_badDepth 174 Mm = some v → f_Mo_malformed 174 Mm = some v := fun v hv => by
            rw [mw, hme, g3, hv]
            rfl
          rcases c1 with ⟨j, j1, j2, j3, j4⟩ | ⟨j1, j2⟩
          · rcases d1 with ⟨i, i1, i2, i3, i4⟩ | ⟨i1, i2⟩
            · have hij : i = j := by
                rcases Nat.lt_trichotomy i j with h | h | h
                · exact absurd (j3 i h) i2
                · exact h
                · exact absurd (i3 j h) j2
              subst hij
              exact ⟨nI i, Mc', Mm', cls _ j4, mod _ i4, Or.inr ⟨nmi1 (by omega), nI_pos (by omega)⟩, c2, c3, d2, d3⟩
            · exact absurd (i1 j j1) j2
          · rcases d1 with ⟨i, i1, i2, i3, i4⟩ | ⟨i1, i2⟩
            · exact absurd (j1 i i1) i2
            · refine ⟨-1, Mc', Mm', cls _ j2, mod _ i2, Or.inl ⟨rfl, Rch (Mc.1 169) (Mc.1 170) (Mc.1 166) (Mc.1 167) (Mc.1 168) r, hlp, fun p hp => ?_, fun j hj => g1 j (by omega) hj, ?_, Rch_0, fun p d hP => ?_⟩, c2, c3, d2, d3⟩
              · obtain ⟨o, o1, o2, o3, o4, o5, o6, o7⟩ := f1 p (by omega) hp
                exact ⟨o, by omega, o2, o3, o4, o5, o6, o7, fun h => absurd h (by omega)⟩
              · rw [oe2, oN_n (by omega)]
                exact hcl
              · have hb := Rch_b hgd hP
                obtain ⟨o, o1, o2, -⟩ := f1 p (by omega) hb.1
                have ho : oN (Mc.1 169 p) = o := by rw [o2, oN_n (by omega)]
                have hok := (i1 p hb.1).1 d hP
                have hs : ∀ p' d', ((¬ (oN (Mc.1 169 p) = 8 ∨ oN (Mc.1 169 p) = 14 ∨ oN (Mc.1 169 p) = 15) ∧ p' = p + 1 ∧ d' = dn (Mc.1 169) p d) ∨ ((oN (Mc.1 169 p) = 8 ∨ oN (Mc.1 169 p) = 9 ∨ oN (Mc.1 169 p) = 10) ∧ p' = oN (Mc.1 170 p) ∧ d' = dn (Mc.1 169) p d) ∨ ∃ j, j < r ∧ oN (Mc.1 166 j) ≤ p ∧ p < oN (Mc.1 167 j) ∧ p' = oN (Mc.1 168 j) ∧ d' = 1) → Rch (Mc.1 169) (Mc.1 170) (Mc.1 166) (Mc.1 167) (Mc.1 168) r p' d' := fun p' d' h => Rch_s hP ⟨hok.2, hok.1, h⟩
                refine ⟨hb.1, by rw [ho]; exact o1, hok.1, hok.2, fun hc => ?_, fun hc => hs _ _ (Or.inr (Or.inl ⟨by omega, rfl, rfl⟩)), fun j hj ha hb2 => hs _ _ (Or.inr (Or.inr ⟨j, hj, ha, hb2, rfl, rfl⟩))⟩
                have hnx : nx (Mc.1 169) l p = p + 1 := by
                  unfold nx
                  rw [if_neg]
                  intro h
                  obtain ⟨o', p1, p2, -⟩ := f1 (p + 1) (by omega) h.2.1
                  have := (nI_eq (b := 16) (by omega) (by decide)).mp (p2.symm.trans h.2.2)
                  omega
                rw [hnx]
                exact hs _ _ (Or.inl ⟨hc, rfl, rfl⟩)
      · rw [if_neg hcl] at hop hme
        refine early (l - 1) (by omega) ?_ ?_
        · rw [cw _ f2, bd_e, if_pos rfl, hop, bd_e]
          exact j20 (l - 1) (by omega)
        · rw [mw, hme]
end VD
/-! copies -/
section CP
variable {q N l r i : Nat} {M : fm_M}
theorem cp_r (H : cdq q N) (hq : q + 5 < 165) (hr2 : r ≤ 2) : ∀ (k i n : Nat) (M : fm_M), i + k = r → k < n → M.1 165 6 = nI r → M.1 q 6 = nI i → (∀ j, j < i → M.1 (q + 1) j = M.1 166 j ∧ M.1 (q + 2) j = M.1 167 j ∧ M.1 (q + 3) j = M.1 168 j) → ∃ M', h_Code_copy_39 n q 165 (nI i) M = some M' ∧ M'.2 = M.2 ∧ (∀ z, ¬ (q = z ∨ (q + 1 ≤ z ∧ z ≤ q + 3)) → M'.1 z = M.1 z) ∧ (∀ z, z ≠ 6 → M'.1 q z = M.1 q z) ∧ M'.1 q 6 = nI r ∧ ∀ j, j < r → M'.1 (q + 1) j = M.1 166 j ∧ M'.1 (q + 2) j = M.1 167 j ∧ M'.1 (q + 3) j = M.1 168 j
  | 0, i, n + 1, M, hi, _, hr, h6, h => by
    have : i = r := by omega
    subst this
    refine ⟨M, ?_, rfl, fun _ _ => rfl, fun _ _ => rfl, h6, h⟩
    rw [h_Code_copy_39, gi_e cl_165, ob_e, hr, if_pos (nI_le (Nat.le_refl _) (by omega))]
  | k + 1, i, n + 1, M, hi, hn, hr, h6, h => by
    generalize hM1 : m_appr q i (M.1 166 i) (M.1 167 i) (M.1 168 i) M = M1
    have r0 : M1.2 = M.2 := by rw [← hM1]; rfl
    have r1 : ∀ z, ¬ (z = q ∨ z = q + 1 ∨ z = q + 2 ∨ z = q + 3) → M1.1 z = M.1 z := fun z hz => by rw [← hM1]; exact apr_o hz
    have r2 : ∀ z, M1.1 q z = if z = 6 then nI (i + 1) else M.1 q z := fun z => by rw [← hM1]; exact apr_q
    obtain ⟨M', g1, g2, g3, g4, g5, g6⟩ := cp_r H hq hr2 k (i + 1) n M1 (by omega) (by omega) (by rw [r1 165 (by omega)]; exact hr) (by rw [r2, if_pos rfl]) (fun j hj => by
      rw [r1 166 (by omega), r1 167 (by omega), r1 168 (by omega), ← hM1, apr_1, apr_2, apr_3]
      by_cases hji : j = i
      · rw [if_pos hji, if_pos hji, if_pos hji, hji]; exact ⟨rfl, rfl, rfl⟩
      · rw [if_neg hji, if_neg hji, if_neg hji]; exact h j (by omega))
    rw [r1 166 (by omega), r1 167 (by omega), r1 168 (by omega)] at g6
    refine ⟨M', ?_, g2.trans r0, fun z hz => (g3 z hz).trans (r1 z (by omega)), fun z hz => (g4 z hz).trans (by rw [r2, if_neg hz]), g5, g6⟩
    rw [h_Code_copy_39, gi_e cl_165, ob_e, hr, if_neg (nI_ge (by omega) (by omega)), gr_165_2, ob_e, ai_n an_166 (by omega) (by decide), ob_e, gr_165_3, ob_e, ai_n an_167 (by omega) (by decide), ob_e, gr_165_4, ob_e, ai_n an_168 (by omega) (by decide), ob_e, ck_e H.1, ob_e, e_appr H h6 (by omega), bd_e, hM1, nI_1]
    exact g1
theorem cp_l (H : cdq q N) (hN : N < 1000) (hq : q + 5 < 165) (hl : l ≤ 24) (hlN : l ≤ N) (hr2 : r ≤ 2) : ∀ (k i n : Nat) (M : fm_M), i + k = l → k < n → M.1 165 5 = nI l → M.1 165 6 = nI r → M.1 q 5 = nI i → M.1 q 6 = nI 0 → (∀ j, j < i → M.1 (q + 4) j = M.1 169 j ∧ M.1 (q + 5) j = M.1 170 j) → ∃ M', h_Code_copy_6 n q 165 (nI i) M = some M' ∧ M'.2 = M.2 ∧ (∀ z, ¬ (q ≤ z ∧ z ≤ q + 5) → M'.1 z = M.1 z) ∧ (∀ z, z ≠ 5 → z ≠ 6 → M'.1 q z = M.1 q z) ∧ M'.1 q 5 = nI l ∧ M'.1 q 6 = nI r ∧ (∀ j, j < l → M'.1 (q + 4) j = M.1 169 j ∧ M'.1 (q + 5) j = M.1 170 j) ∧ ∀ j, j < r → M'.1 (q + 1) j = M.1 166 j ∧ M'.1 (q + 2) j = M.1 167 j ∧ M'.1 (q + 3) j = M.1 168 j
  | 0, i, n + 1, M, hi, _, h5, hr, hq5, hq6, h => by
    have : i = l := by omega
    subst this
    obtain ⟨M', g1, g2, g3, g4, g5, g6⟩ := cp_r H hq hr2 r 0 100000 M (by omega) (by omega) hr hq6 (fun j hj => absurd hj (Nat.not_lt_zero _))
    refine ⟨M', ?_, g2, fun z hz => g3 z (by omega), fun z h1 h2 => g4 z h2, by rw [g4 5 (by decide)]; exact hq5, g5, fun j hj => by rw [g3 (q + 4) (by omega), g3 (q + 5) (by omega)]; exact h j hj, g6⟩
    rw [h_Code_copy_6, gi_e cl_165, ob_e, h5, if_pos (nI_le (Nat.le_refl _) (by omega))]
    exact g1
  | k + 1, i, n + 1, M, hi, hn, h5, hr, hq5, hq6, h => by
    generalize hM1 : m_app q i (M.1 169 i) (M.1 170 i) M = M1
    have r0 : M1.2 = M.2 := by rw [← hM1]; rfl
    have r1 : ∀ z, ¬ (z = q ∨ z = q + 4 ∨ z = q + 5) → M1.1 z = M.1 z := fun z hz => by rw [← hM1]; exact app_o hz
    have r2 : ∀ z, M1.1 q z = if z = 5 then nI (i + 1) else M.1 q z := fun z => by rw [← hM1]; exact app_q
    obtain ⟨M', g1, g2, g3, g4, g5, g6, g7, g8⟩ := cp_l H hN hq hl hlN hr2 k (i + 1) n M1 (by omega) (by omega) (by rw [r1 165 (by omega)]; exact h5) (by rw [r1 165 (by omega)]; exact hr) (by rw [r2, if_pos rfl]) (by rw [r2, if_neg (by decide)]; exact hq6) (fun j hj => by
      rw [r1 169 (by omega), r1 170 (by omega), ← hM1, app_4, app_5]
      by_cases hji : j = i
      · rw [if_pos hji, if_pos hji, hji]; exact ⟨rfl, rfl⟩
      · rw [if_neg hji, if_neg hji]; exact h j (by omega))
    rw [r1 169 (by omega), r1 170 (by omega)] at g7
    rw [r1 166 (by omega), r1 167 (by omega), r1 168 (by omega)] at g8
    refine ⟨M', ?_, g2.trans r0, fun z hz => (g3 z hz).trans (r1 z (by omega)), fun z h1 h2 => (g4 z h1 h2).trans (by rw [r2, if_neg h1]), g5, g6, g7, g8⟩
    rw [h_Code_copy_6, gi_e cl_165, ob_e, h5, if_neg (nI_ge (by omega) (by omega)), gr_165_0, ob_e, ai_n an_169 (by omega) (by decide), ob_e, gr_165_1, ob_e, ai_n an_170 (by omega) (by decide), ob_e, ck_e H.1, ob_e, e_app H hq5 hN (by omega), bd_e, hM1, nI_1]
    exact g1
theorem cp (H : cdq q N) (hN : N < 1000) (hq : q + 5 < 165) (hl : l ≤ 24) (hlN : l ≤ N) (hr2 : r ≤ 2) (h5 : M.1 165 5 = nI l) (hr : M.1 165 6 = nI r) : ∃ M', f_Code_copy q 165 M = some M' ∧ M'.2 = M.2 ∧ (∀ z, ¬ (q ≤ z ∧ z ≤ q + 5) → M'.1 z = M.1 z) ∧ M'.1 q 5 = nI l ∧ M'.1 q 6 = nI r ∧ (∀ j, j < l → M'.1 (q + 4) j = M.1 169 j ∧ M'.1 (q + 5) j = M.1 170 j) ∧ ∀ j, j < r → M'.1 (q + 1) j = M.1 166 j ∧ M'.1 (q + 2) j = M.1 167 j ∧ M'.1 (q + 3) j = M.1 168 j := by
  have r1 : ∀ z, z ≠ q → (fm_sI (fm_sI M q 5 0) q 6 0).1 z = M.1 z := fun z hz => by rw [row_ne hz, row_ne hz]
  obtain ⟨M', g1, g2, g3, g4, g5, g6, g7, g8⟩ := cp_l H hN hq hl hlN hr2 l 0 100000 (fm_sI (fm_sI M q 5 0) q 6 0) (by omega) (by omega) (by rw [r1 165 (by omega)]; exact h5) (by rw [r1 165 (by omega)]; exact hr) (by rw [sI_r, if_neg (by omega), sI_r, if_pos ⟨rfl, rfl⟩]; rfl) (by rw [sI_r, if_pos ⟨rfl, rfl⟩]; rfl) (fun j hj => absurd hj (Nat.not_lt_zero _))
  rw [r1 169 (by omega), r1 170 (by omega)] at g7
  rw [r1 166 (by omega), r1 167 (by omega), r1 168 (by omega)] at g8
  refine ⟨M', ?_, g2, fun z hz => (g3 z hz).trans (r1 z (by omega)), g5, g6, g7, g8⟩
  unfold f_Code_copy
  rw [ck_e H.1, ob_e, e_cclr H, ob_e]
  exact g1
/-- the class's method becomes the draft -/
theorem c_become {m : Nat} (hm : m < 6) (hl : l ≤ 24) (hr2 : r ≤ 2) (h5 : M.1 165 5 = nI l) (hr : M.1 165 6 = nI r) : ∃ M', f_Method_become (24 + 15 * m) 165 M = some M' ∧ M'.2 = M.2 ∧ (∀ z, ¬ (25 + 15 * m ≤ z ∧ z ≤ 37 + 15 * m) → M'.1 z = M.1 z) ∧ (∀ q, (q = 25 + 15 * m ∨ q = 31 + 15 * m) → M'.1 q 5 = nI l ∧ M'.1 q 6 = nI r ∧ (∀ j, j < l → M'.1 (q + 4) j = M.1 169 j ∧ M'.1 (q + 5) j = M.1 170 j) ∧ ∀ j, j < r → M'.1 (q + 1) j = M.1 166 j ∧ M'.1 (q + 2) j = M.1 167 j ∧ M'.1 (q + 3) j = M.1 168 j) ∧ ∀ j, j < 24 → M'.1 (37 + 15 * m) j = -1 := by
  obtain ⟨M1, a1, a2, a3, a4, a5, a6, a7⟩ := cp (M := M) (cd_o m hm) (by decide) (by omega) hl hl hr2 h5 hr
  obtain ⟨M2, b1, b2, b3, b4, b5, b6, b7⟩ := cp (M := M1) (l := l) (r := r) (cd_w m hm) (by decide) (by omega) hl (by omega) hr2 (by rw [a3 165 (by omega)]; exact h5) (by rw [a3 165 (by omega)]; exact hr)
  have f1 : ∀ z, z ≠ 37 + 15 * m → (fillM M2 (37 + 15 * m) 24 (-1)).1 z = M2.1 z := fun z hz => by
    funext y
    simp only [fillM]
    rw [if_neg (by omega)]
  rw [a3 169 (by omega), a3 170 (by omega)] at b6
  rw [a3 166 (by omega), a3 167 (by omega), a3 168 (by omega)] at b7
  refine ⟨fillM M2 (37 + 15 * m) 24 (-1), ?_, by show M2.2 = _; rw [b2, a2], fun z hz => by rw [f1 z (by omega), b3 z (by omega), a3 z (by omega)], fun q hq => ?_, fun j hj => ?_⟩
  · unfold f_Method_become
    rw [gr_m0 m hm, ob_e, ck_e (cd_o m hm).1, ob_e, a1, ob_e, gr_m1 m hm, ob_e, ck_e (cd_w m hm).1, ob_e, b1, ob_e, gr_m2 m hm, ob_e, e_fill (an_m2 m hm) (by omega) (by decide), ob_e]
  · rcases hq with rfl | rfl
    · have g : ∀ z, 25 + 15 * m ≤ z → z ≤ 30 + 15 * m → (fillM M2 (37 + 15 * m) 24 (-1)).1 z = M1.1 z := fun z h1 h2 => by rw [f1 z (by omega), b3 z (by omega)]
      rw [g _ (by omega) (by omega), g _ (by omega) (by omega), g _ (by omega) (by omega), g _ (by omega) (by omega), g _ (by omega) (by omega), g _ (by omega) (by omega)]
      exact ⟨a4, a5, a6, a7⟩
    · rw [f1 _ (by omega), f1 _ (by omega), f1 _ (by omega), f1 _ (by omega), f1 _ (by omega), f1 _ (by omega)]
      exact ⟨b4, b5, b6, b7⟩
  · simp only [fillM]
    rw [if_pos ⟨trivial, hj⟩]
end CP
