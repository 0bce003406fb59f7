/-! the ledger's sums -/
def sL (d : Nat → Int64) : Nat → Int64
  | 0 => 0
  | k + 1 => sL d k + d k
theorem sL_n {d : Nat → Int64} {B : Nat} : ∀ K, (∀ k, k < K → ∃ b, b ≤ B ∧ d k = lN b) → ∃ x, x ≤ K * B ∧ sL d K = lN x
  | 0, _ => ⟨0, Nat.zero_le _, rfl⟩
  | K + 1, h => by
    obtain ⟨x, h1, h2⟩ := sL_n K (fun k hk => h k (by omega))
    obtain ⟨b, h3, h4⟩ := h K (by omega)
    refine ⟨x + b, ?_, ?_⟩
    · rw [Nat.succ_mul]
      omega
    · show sL d K + d K = _
      rw [h2, h4, lN_add]
theorem sL_z {d : Nat → Int64} {K : Nat} : ∀ L, (∀ k, K ≤ k → k < K + L → d k = 0) → sL d (K + L) = sL d K
  | 0, _ => rfl
  | L + 1, h => by
    show sL d (K + L) + d (K + L) = _
    rw [sL_z L (fun k h1 h2 => h k h1 (by omega)), h (K + L) (by omega) (by omega), Int64.add_zero]
section SUMS
variable {M : fm_M} {s h : Nat}
def e_D (M : fm_M) : Nat → Int64 := M.2.1 202
theorem e_needS1 {x : Int32} (hs : M.1 7 9 = nI s) (hs2 : s ≤ 78) (hv : 0 ≤ x.toInt ∧ x.toInt < s) : f_AP_needSite 0 x M = some (.inl (), M) := by
  unfold f_AP_needSite
  rw [if_neg (fun h9 => by have := lt0.mp h9; omega), gr_0_4, ob_e, gi_e cl_7, ob_e, hs, if_pos ((ltn (by omega)).mpr hv.2)]
theorem e_needS0 {x : Int32} (hs : M.1 7 9 = nI s) (hs2 : s ≤ 78) (hv : ¬ (0 ≤ x.toInt ∧ x.toInt < s)) : f_AP_needSite 0 x M = some (.inr "java/lang/IllegalArgumentException", M) := by
  unfold f_AP_needSite j_AP_needSite_15
  by_cases h1 : x < 0
  · rw [if_pos h1]
  · rw [if_neg h1, gr_0_4, ob_e, gi_e cl_7, ob_e, hs, if_neg (fun h9 => hv ⟨by rw [lt0] at h1; omega, (ltn (by omega)).mp h9⟩)]
theorem e_bstep {n t j : Nat} {x : Int32} {acc : Int64} (ht : t < 3) (hj : j < 78) : h_Ledger_bytesOf_5 (n + 1) 7 (nI j) x acc (nI t) M = h_Ledger_bytesOf_5 n 7 (nI j) x (acc + if x = -1 ∨ x = nI t then M.2.1 (13 + t) j else 0) (nI (t + 1)) M := by
  have hb : ∀ kk, j_Ledger_bytesOf_23 kk 7 (nI j) x (nI t) acc M = kk 7 (nI j) x (acc + M.2.1 (13 + t) j) (nI (t + 1)) M := by
    intro kk
    unfold j_Ledger_bytesOf_23 j_Ledger_bytesOf_36
    rw [gr_7_1, ob_e, ar_12 t ht, ob_e, aj_n (an_13 t ht) hj (by decide), ob_e, nI_1]
  rw [h_Ledger_bytesOf_5, if_neg (show ¬ 3 ≤ nI t from nI_ge (b := 3) ht (by decide))]
  by_cases h1 : x = -1
  · rw [if_pos h1, hb, if_pos (Or.inl h1)]
  · rw [if_neg h1]
    by_cases h2 : x = nI t
    · rw [if_pos h2, hb, if_pos (Or.inr h2)]
    · rw [if_neg h2, if_neg (by rintro (h9 | h9); exact h1 h9; exact h2 h9)]
      unfold j_Ledger_bytesOf_36
      rw [nI_1]
theorem e_bytesOf {j : Nat} {x : Int32} (hj : j < 78) : f_Ledger_bytesOf 7 (nI j) x M = some (0 + (if x = -1 ∨ x = nI 0 then M.2.1 13 j else 0) + (if x = -1 ∨ x = nI 1 then M.2.1 14 j else 0) + (if x = -1 ∨ x = nI 2 then M.2.1 15 j else 0), M) := by
  unfold f_Ledger_bytesOf
  rw [show (0 : Int32) = nI 0 from rfl, e_bstep (n := 99999) (by decide) hj, e_bstep (n := 99998) (by decide) hj, e_bstep (n := 99997) (by decide) hj, h_Ledger_bytesOf_5, if_pos (show 3 ≤ nI (0 + 1 + 1 + 1) by decide)]
theorem e_ostep {n t j : Nat} {x : Int32} {acc : Int64} (ht : t < 3) (hj : j < 78) : h_Ledger_objectsOf_5 (n + 1) 7 (nI j) x acc (nI t) M = h_Ledger_objectsOf_5 n 7 (nI j) x (acc + if x = -1 ∨ x = nI t then (M.1 (9 + t) j).toInt64 else 0) (nI (t + 1)) M := by
  have hb : ∀ kk, j_Ledger_objectsOf_23 kk 7 (nI j) x (nI t) acc M = kk 7 (nI j) x (acc + (M.1 (9 + t) j).toInt64) (nI (t + 1)) M := by
    intro kk
    unfold j_Ledger_objectsOf_23 j_Ledger_objectsOf_37
    rw [gr_7_0, ob_e, ar_8 t ht, ob_e, ai_n (an_9 t ht) hj (by decide), ob_e, nI_1]
  rw [h_Ledger_objectsOf_5, if_neg (show ¬ 3 ≤ nI t from nI_ge (b := 3) ht (by decide))]
  by_cases h1 : x = -1
  · rw [if_pos h1, hb, if_pos (Or.inl h1)]
  · rw [if_neg h1]
    by_cases h2 : x = nI t
    · rw [if_pos h2, hb, if_pos (Or.inr h2)]
    · rw [if_neg h2, if_neg (by rintro (h9 | h9); exact h1 h9; exact h2 h9)]
      unfold j_Ledger_objectsOf_37
      rw [nI_1]
theorem e_objectsOf {j : Nat} {x : Int32} (hj : j < 78) : f_Ledger_objectsOf 7 (nI j) x M = some (0 + (if x = -1 ∨ x = nI 0 then (M.1 9 j).toInt64 else 0) + (if x = -1 ∨ x = nI 1 then (M.1 10 j).toInt64 else 0) + (if x = -1 ∨ x = nI 2 then (M.1 11 j).toInt64 else 0), M) := by
  unfold f_Ledger_objectsOf
  rw [show (0 : Int32) = nI 0 from rfl, e_ostep (n := 99999) (by decide) hj, e_ostep (n := 99998) (by decide) hj, e_ostep (n := 99997) (by decide) hj, h_Ledger_objectsOf_5, if_pos (show 3 ≤ nI (0 + 1 + 1 + 1) by decide)]
/-- the class's own sums are those over the reference's row -/
theorem e_bOf1 {Mm : fm_M} (he : RE1 s h M Mm) {j : Nat} (hj : j < 78) : f_Ledger_bytesOf 7 (nI j) (-1) M = some (Mm.2.1 202 (3 * j) + Mm.2.1 202 (3 * j + 1) + Mm.2.1 202 (3 * j + 2), M) := by
  have hd : ∀ t, t < 3 → M.2.1 (13 + t) j = Mm.2.1 202 (3 * j + t) := by
    intro t ht
    obtain ⟨b, -, h1, h2⟩ := he.2.1 t ht j hj
    rw [h1, h2]
  have d0 := hd 0 (by decide)
  have d1 := hd 1 (by decide)
  have d2 := hd 2 (by decide)
  rw [e_bytesOf hj, if_pos (Or.inl rfl), if_pos (Or.inl rfl), if_pos (Or.inl rfl), Int64.zero_add]
  rw [show M.2.1 13 j = Mm.2.1 202 (3 * j) from d0, show M.2.1 14 j = Mm.2.1 202 (3 * j + 1) from d1, show M.2.1 15 j = Mm.2.1 202 (3 * j + 2) from d2]
theorem e_ball {Mm : fm_M} (he : RE1 s h M Mm) (hs : M.1 7 9 = nI s) (hs2 : s ≤ 78) : ∀ (k i n : Nat), i + k = s → k < n → h_Ledger_bytesOfAll_4 n 7 (sL (Mm.2.1 202) (3 * i)) (nI i) M = some (sL (Mm.2.1 202) (3 * s), M)
  | 0, i, n + 1, hi, _ => by
    have : i = s := by omega
    subst this
    rw [h_Ledger_bytesOfAll_4, gi_e cl_7, ob_e, hs, if_pos (nI_le (Nat.le_refl _) (by omega))]
  | k + 1, i, n + 1, hi, hn => by
    rw [h_Ledger_bytesOfAll_4, gi_e cl_7, ob_e, hs, if_neg (nI_ge (by omega) (by omega)), ck_e cl_7, ob_e, e_bOf1 he (by omega), bd_e, nI_1]
    have h1 : sL (Mm.2.1 202) (3 * i) + (Mm.2.1 202 (3 * i) + Mm.2.1 202 (3 * i + 1) + Mm.2.1 202 (3 * i + 2)) = sL (Mm.2.1 202) (3 * (i + 1)) := by
      show _ = sL (Mm.2.1 202) (3 * i) + Mm.2.1 202 (3 * i) + Mm.2.1 202 (3 * i + 1) + Mm.2.1 202 (3 * i + 2)
      rw [← Int64.add_assoc, ← Int64.add_assoc]
    rw [h1]
    exact e_ball he hs hs2 k (i + 1) n (by omega) (by omega)
theorem e_bytesOfAll {Mm : fm_M} (he : RE1 s h M Mm) (hs : M.1 7 9 = nI s) (hs2 : s ≤ 78) : f_Ledger_bytesOfAll 7 M = some (sL (Mm.2.1 202) (3 * s), M) := e_ball he hs hs2 s 0 100000 (by omega) (by omega)
/-- how large they are -/
theorem e_big {Mm : fm_M} (he : RE1 s h M Mm) (hh : h ≤ 400) (hs2 : s ≤ 78) : ∃ x, x < 100000000000 ∧ sL (Mm.2.1 202) (3 * s) = lN x ∧ sL (Mm.2.1 202) 252 = lN x := by
  obtain ⟨x, h1, h2⟩ := sL_n (d := Mm.2.1 202) (B := 100000 * h) (3 * s) (fun k hk => by
    obtain ⟨b, b1, -, b3⟩ := he.2.1 (k % 3) (by omega) (k / 3) (by omega)
    rw [show 3 * (k / 3) + k % 3 = k by omega] at b3
    exact ⟨b, b1, b3⟩)
  refine ⟨x, ?_, h2, ?_⟩
  · have : 3 * s * (100000 * h) ≤ 234 * (100000 * 400) := Nat.mul_le_mul (by omega) (by omega)
    omega
  · rw [← h2]
    have := sL_z (d := Mm.2.1 202) (K := 3 * s) (252 - 3 * s) (fun k a b => he.2.2 k a (by omega))
    rw [show 3 * s + (252 - 3 * s) = 252 by omega] at this
    exact this
/-- the reference's loop over its row -/
theorem e_mall {D : Nat → Int64} (hD : M.2.1 202 = D) : ∀ (k i n : Nat), i + k = 252 → k < n → h_Mo_allBytes_4 n 174 (sL D i) (nI i) M = some (sL D 252, M)
  | 0, i, n + 1, hi, _ => by
    have : i = 252 := by omega
    subst this
    rw [h_Mo_allBytes_4, if_pos (by decide)]
  | k + 1, i, n + 1, hi, hn => by
    rw [h_Mo_allBytes_4, if_neg (show ¬ 252 ≤ nI i from nI_ge (b := 252) (by omega) (by omega)), gr_174_38, ob_e, aj_n an_202 (by omega) (by decide), ob_e, nI_1, hD]
    exact e_mall hD k (i + 1) n (by omega) (by omega)
theorem e_allBytes {D : Nat → Int64} (hD : M.2.1 202 = D) : f_Mo_allBytes 174 M = some (sL D 252, M) := e_mall hD 252 0 100000 (by decide) (by decide)
theorem e_moall {q j : Nat} (hq : an q = some (.long, 252)) (hj : j < 84) : f_Mo_all q (nI j) M = some (M.2.1 q (3 * j) + M.2.1 q (3 * j + 1) + M.2.1 q (3 * j + 2), M) := by
  unfold f_Mo_all
  rw [show (3 : Int32) * nI j = nI (3 * j) from nI_mul 3 j, aj_n hq (by omega) (by decide), ob_e, show nI (3 * j) + 1 = nI (3 * j + 1) from nI_add _ 1, aj_n hq (by omega) (by decide), ob_e, show nI (3 * j) + 2 = nI (3 * j + 2) from nI_add _ 2, aj_n hq (by omega) (by decide), ob_e]
/-- the samples -/
theorem e_samp {Mm : fm_M} (he : ∀ j, j < 78 → ∃ x, x ≤ 2001 * h ∧ M.1 17 j = nI x ∧ Mm.1 203 j = nI x) (hh : h ≤ 400) (hs2 : s ≤ 78) : ∃ σ : Nat → Nat, σ 0 = 0 ∧ (∀ i, i < s → ∃ x, M.1 17 i = nI x ∧ Mm.1 203 i = nI x ∧ x ≤ 2001 * h ∧ σ (i + 1) = σ i + x) ∧ ∀ i, i ≤ s → σ i ≤ i * (2001 * h) := by
  have h0 : ∀ j, ∃ x, j < 78 → x ≤ 2001 * h ∧ M.1 17 j = nI x ∧ Mm.1 203 j = nI x := by
    intro j
    by_cases hj : j < 78
    · obtain ⟨x, hx⟩ := he j hj
      exact ⟨x, fun _ => hx⟩
    · exact ⟨0, fun h => absurd h hj⟩
  refine ⟨fun i => Nat.rec 0 (fun j a => a + Classical.choose (h0 j)) i, rfl, fun i hi => ?_, fun i => ?_⟩
  · have hc := Classical.choose_spec (h0 i) (by omega)
    exact ⟨_, hc.2.1, hc.2.2, hc.1, rfl⟩
  · induction i with
    | zero => intro _; exact Nat.zero_le _
    | succ i ih =>
      intro hi
      have hc := (Classical.choose_spec (h0 i) (by omega)).1
      have := ih (by omega)
      exact Nat.le_trans (Nat.add_le_add this hc) (Nat.le_of_eq (Nat.succ_mul i (2001 * h)).symm)
theorem e_sall {σ : Nat → Nat} (hσ : ∀ i, i < s → ∃ x, M.1 17 i = nI x ∧ x ≤ 800400 ∧ σ (i + 1) = σ i + x) (hs : M.1 7 9 = nI s) (hs2 : s ≤ 78) : ∀ (k i n : Nat), i + k = s → k < n → h_Ledger_samplesOfAll_4 n 7 (lN (σ i)) (nI i) M = some (lN (σ s), M)
  | 0, i, n + 1, hi, _ => by
    have : i = s := by omega
    subst this
    rw [h_Ledger_samplesOfAll_4, gi_e cl_7, ob_e, hs, if_pos (nI_le (Nat.le_refl _) (by omega))]
  | k + 1, i, n + 1, hi, hn => by
    obtain ⟨x, x1, x2, x3⟩ := hσ i (by omega)
    rw [h_Ledger_samplesOfAll_4, gi_e cl_7, ob_e, hs, if_neg (nI_ge (by omega) (by omega)), gr_7_3, ob_e, ai_n an_17 (by omega) (by decide), ob_e, x1, nI_l (by omega), lN_add, ← x3, nI_1]
    exact e_sall hσ hs hs2 k (i + 1) n (by omega) (by omega)
/-- the class's estimate -/
theorem e_est {Mm : fm_M} (he : RE1 s h M Mm) (h2 : ∀ j, j < 78 → ∃ x, x ≤ 2001 * h ∧ M.1 17 j = nI x ∧ Mm.1 203 j = nI x) (hs : M.1 7 9 = nI s) (hs2 : s ≤ 78) (hh : h ≤ 400) {j : Nat} (hj : j < s) :
    ∃ v, pos64 v ∧ f_Ledger_estimateOf 7 (nI j) M = some (v, M) ∧ ∀ M1 : fm_M, M1.1 174 23 = nI s → M1.1 203 = Mm.1 203 → M1.2.1 202 = Mm.2.1 202 → f_Mo_estimated 174 (nI j) M1 = some (v, M1) := by
  obtain ⟨σ, z0, z1, z2⟩ := e_samp h2 hh hs2
  obtain ⟨x, b1, b2, b3⟩ := e_big he hh hs2
  obtain ⟨y, y1, y2, y3, y4⟩ := z1 j hj
  have zb : σ s < 100000000 := by
    have h9 := z2 s (Nat.le_refl _)
    have : s * (2001 * h) ≤ 78 * (2001 * 400) := Nat.mul_le_mul hs2 (by omega)
    omega
  have hz1' : ∀ i, i < s → ∃ x, M.1 17 i = nI x ∧ x ≤ 800400 ∧ σ (i + 1) = σ i + x := fun i hi => by
    obtain ⟨x, q1, -, q3, q4⟩ := z1 i hi
    exact ⟨x, q1, by omega, q4⟩
  have hall : f_Ledger_samplesOfAll 7 M = some (lN (σ s), M) := by
    have := e_sall hz1' hs hs2 s 0 100000 (by omega) (by omega)
    rw [z0] at this
    exact this
  have hmod : ∀ M1 : fm_M, M1.1 174 23 = nI s → M1.1 203 = Mm.1 203 → ∀ (k i n : Nat), i + k = s → k < n → h_Mo_estimated_4 n 174 (nI j) (nI (σ i)) (nI i) M1 = h_Mo_estimated_4 (n - k) 174 (nI j) (nI (σ s)) (nI s) M1 := by
    intro M1 g1 g2 k
    induction k with
    | zero =>
      intro i n hi _
      have : i = s := by omega
      subst this
      rfl
    | succ k ih =>
      intro i n hi hn
      obtain ⟨x, -, q2, q3, q4⟩ := z1 i (by omega)
      obtain ⟨n', rfl⟩ : ∃ n', n = n' + 1 := ⟨n - 1, by omega⟩
      rw [h_Mo_estimated_4, gi_e cl_174, ob_e, g1, if_neg (nI_ge (by omega) (by omega)), gr_174_39, ob_e, ai_n an_203 (by omega) (by decide), ob_e, g2, q2, nI_add, ← q4, nI_1, ih (i + 1) n' (by omega) (by omega)]
      congr 1
      omega
  by_cases h0 : σ s = 0
  · refine ⟨FP.dconst0, pos64_0, ?_, fun M1 g1 g2 g3 => ?_⟩
    · unfold f_Ledger_estimateOf
      rw [ck_e cl_7, ob_e, hall, bd_e, h0, if_pos (by decide)]
    · unfold f_Mo_estimated
      have := hmod M1 g1 g2 s 0 100000 (by omega) (by omega)
      rw [z0] at this
      rw [show (0 : Int32) = nI 0 from rfl, this, show 100000 - s = (99999 - s) + 1 by omega, h_Mo_estimated_4, gi_e cl_174, ob_e, g1, if_pos (nI_le (Nat.le_refl _) (by omega)), h0, if_pos (by decide)]
  · have hp := pos_est (a := y) (b := x) (d := σ s) (by omega) (by omega) (by omega) (by omega)
    refine ⟨FP.ddiv (FP.dmul (FP.l2d (lN y)) (FP.l2d (lN x))) (FP.l2d (lN (σ s))), hp.2, ?_, fun M1 g1 g2 g3 => ?_⟩
    · have hne : ¬ lg_cmp (lN (σ s)) 0 = 0 := by
        unfold lg_cmp
        rw [if_pos (show lN (σ s) > 0 by rw [gt_iff_lt, Int64.lt_iff_toInt_lt, lt_n (by omega)]; show (0 : Int) < _; omega)]
        decide
      unfold f_Ledger_estimateOf
      rw [ck_e cl_7, ob_e, hall, bd_e, if_neg hne, gr_7_3, ob_e, ai_n an_17 (by omega) (by decide), ob_e, ob_e, e_bytesOfAll he hs hs2, bd_e, b2, y1, i2d_n (by omega), pos_nn64 hp.1, ob_e, pos_nn64 hp.2, ob_e]
    · unfold f_Mo_estimated
      have := hmod M1 g1 g2 s 0 100000 (by omega) (by omega)
      rw [z0] at this
      rw [show (0 : Int32) = nI 0 from rfl, this, show 100000 - s = (99999 - s) + 1 by omega, h_Mo_estimated_4, gi_e cl_174, ob_e, g1, if_pos (nI_le (Nat.le_refl _) (by omega)), if_neg (nI_ne0 (by omega) (by omega)), gr_174_39, ob_e, ai_n an_203 (by omega) (by decide), ob_e, g2, y2, ck_e cl_174, ob_e, e_allBytes g3, bd_e, b3, i2d_n (by omega), i2d_n (by omega), pos_nn64 hp.1, ob_e, pos_nn64 hp.2, ob_e]
end SUMS
