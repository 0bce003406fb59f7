/-! the stack's number; entries; samples -/
section STK
variable {t a : Nat} {Mc Mm : fm_M}
theorem stk_l (ht : t < 3) (ha5 : a ≤ 5) (hc : Mc.1 (114 + 17 * t) 2 = nI a) (hm : Mm.1 192 t = nI a) (hfr : ∀ f, f < a → ∃ u, u < 6 ∧ Mc.1 (116 + 17 * t + 3 * f) 2 = nI u ∧ Mm.1 195 (5 * t + f) = nI u) : ∀ (k i z n1 : Nat), i + k = a → k < n1 → z < 4096 → ∃ σ, h_Strand_stackNumber_4 n1 (114 + 17 * t) (nI z) (nI i) Mc = some (σ, Mc) ∧ ∀ N : fm_M, N.1 192 = Mm.1 192 → N.1 195 = Mm.1 195 → ∀ n2, k < n2 → h_Mo_stackOf_4 n2 174 (nI t) (nI z) (nI i) N = some (σ, N)
  | 0, i, z, n1 + 1, hi, _, hz => by
    have : i = a := by omega
    subst this
    refine ⟨nI z, ?_, fun N h1 h2 n2 hn2 => ?_⟩
    · rw [h_Strand_stackNumber_4, gi_e (cl_t t ht), ob_e, hc, if_pos (nI_le (Nat.le_refl _) (by omega))]
    · obtain ⟨m, rfl⟩ : ∃ m, n2 = m + 1 := ⟨n2 - 1, by omega⟩
      rw [h_Mo_stackOf_4, gr_174_25, ob_e, ai_n an_192 ht (by decide), ob_e, h1, hm, if_pos (nI_le (Nat.le_refl _) (by omega))]
  | k + 1, i, z, n1 + 1, hi, hn1, hz => by
    obtain ⟨u, u1, u2, u3⟩ := hfr i (by omega)
    obtain ⟨σ, g1, g2⟩ := stk_l ht ha5 hc hm hfr k (i + 1) ((8 * z + u + 1) % 4096) n1 (by omega) (by omega) (by omega)
    refine ⟨σ, ?_, fun N h1 h2 n2 hn2 => ?_⟩
    · rw [h_Strand_stackNumber_4, gi_e (cl_t t ht), ob_e, hc, if_neg (nI_ge (by omega) (by omega)), gr_t0 t ht, ob_e, ar_f t ht i (by omega), ob_e, gi_e (cl_f t ht i (by omega)), ob_e, u2, show nI z * 8 = nI (z * 8) from nI_mul z 8, nI_add, nI_1, nI_1, pk_andN (by omega) 12 (by decide), show (z * 8 + u + 1) % 2 ^ 12 = (8 * z + u + 1) % 4096 by rw [Nat.mul_comm z 8]]
      exact g1
    · obtain ⟨m, rfl⟩ : ∃ m, n2 = m + 1 := ⟨n2 - 1, by omega⟩
      have hF : ((5 : Int32) * nI t) + nI i = nI (5 * t + i) := by rw [show (5 : Int32) * nI t = nI (5 * t) from nI_mul 5 t, nI_add]
      rw [h_Mo_stackOf_4, gr_174_25, ob_e, ai_n an_192 ht (by decide), ob_e, h1, hm, if_neg (nI_ge (by omega) (by omega)), gr_174_28, ob_e, hF, ai_n an_195 (by omega) (by decide), ob_e, h2, u3, show (8 : Int32) * nI z = nI (8 * z) from nI_mul 8 z, nI_add, nI_1, nI_1, show (4096 : Int32) = nI 4096 from rfl, pk_rem (by omega) (by decide) (by decide)]
      exact g2 N h1 h2 m (by omega)
theorem stk (ht : t < 3) (ha5 : a ≤ 5) (hc : Mc.1 (114 + 17 * t) 2 = nI a) (hm : Mm.1 192 t = nI a) (hfr : ∀ f, f < a → ∃ u, u < 6 ∧ Mc.1 (116 + 17 * t + 3 * f) 2 = nI u ∧ Mm.1 195 (5 * t + f) = nI u) : ∃ σ, f_Strand_stackNumber (114 + 17 * t) Mc = some (σ, Mc) ∧ ∀ N : fm_M, N.1 192 = Mm.1 192 → N.1 195 = Mm.1 195 → f_Mo_stackOf 174 (nI t) N = some (σ, N) := by
  obtain ⟨σ, g1, g2⟩ := stk_l ht ha5 hc hm hfr a 0 0 100000 (by omega) (by omega) (by decide)
  exact ⟨σ, g1, fun N h1 h2 => g2 N h1 h2 100000 (by omega)⟩
end STK
def fd (es et : Nat → Int32) (j σ : Int32) : Nat → Nat → Nat
  | 0, i => i
  | k + 1, i => if es i = j ∧ et i = σ then i else fd es et j σ k (i + 1)
section FIND
variable {es et es' et' : Nat → Int32} {j σ : Int32} {e : Nat} {M : fm_M}
theorem fd_b : ∀ k i, i ≤ fd es et j σ k i ∧ fd es et j σ k i ≤ i + k
  | 0, i => ⟨Nat.le_refl _, Nat.le_refl _⟩
  | k + 1, i => by
    rw [fd]
    split
    · omega
    · have := fd_b k (i + 1)
      omega
theorem fd_c : ∀ k i, (∀ z, i ≤ z → z < i + k → es' z = es z ∧ et' z = et z) → fd es' et' j σ k i = fd es et j σ k i
  | 0, i, _ => rfl
  | k + 1, i, h => by
    rw [fd, fd, (h i (by omega) (by omega)).1, (h i (by omega) (by omega)).2, fd_c k (i + 1) (fun z h1 h2 => h z (by omega) (by omega))]
theorem fd_n : ∀ k i, fd es et j σ k i = i + k → (∀ z, i ≤ z → z < i + k → es' z = es z ∧ et' z = et z) → es' (i + k) = j → et' (i + k) = σ → fd es' et' j σ (k + 1) i = i + k
  | 0, i, _, _, h1, h2 => by
    rw [fd, if_pos ⟨h1, h2⟩]
    rfl
  | k + 1, i, h, h0, h1, h2 => by
    rw [fd] at h
    rw [fd, (h0 i (by omega) (by omega)).1, (h0 i (by omega) (by omega)).2]
    by_cases hc : es i = j ∧ et i = σ
    · rw [if_pos hc] at h
      omega
    · rw [if_neg hc] at h ⊢
      have := fd_n k (i + 1) (by omega) (fun z a b => h0 z (by omega) (by omega)) (by rw [show i + 1 + k = i + (k + 1) by omega]; exact h1) (by rw [show i + 1 + k = i + (k + 1) by omega]; exact h2)
      omega
theorem e_fd (he : M.1 7 10 = nI e) (he6 : e ≤ 16) : ∀ (k i n : Nat), i + k = e → k < n → h_Ledger_entryOf_2 n 7 j σ (nI i) M = some (nI (fd (M.1 20) (M.1 21) j σ k i), M)
  | 0, i, n + 1, hi, _ => by
    have : i = e := by omega
    subst this
    rw [h_Ledger_entryOf_2, gi_e cl_7, ob_e, he, if_pos (nI_le (Nat.le_refl _) (by omega)), ob_e, fd]
  | k + 1, i, n + 1, hi, hn => by
    have ih := e_fd he he6 k (i + 1) n (by omega) (by omega)
    rw [h_Ledger_entryOf_2, gi_e cl_7, ob_e, he, if_neg (nI_ge (by omega) (by omega)), gr_7_6, ob_e, ai_n an_20 (by omega) (by decide), ob_e, fd]
    unfold j_Ledger_entryOf_32
    by_cases h1 : M.1 20 i = j
    · rw [if_pos h1, gr_7_7, ob_e, ai_n an_21 (by omega) (by decide), ob_e]
      by_cases h2 : M.1 21 i = σ
      · rw [if_pos h2, if_pos ⟨h1, h2⟩]
      · rw [if_neg h2, if_neg (fun h => h2 h.2), nI_1]
        exact ih
    · rw [if_neg h1, if_neg (fun h => h1 h.1), nI_1]
      exact ih
def smp (M : fm_M) (j σ : Int32) (e k0 : Nat) : fm_M := if k0 < e then fm_sI M 209 k0 (M.1 209 k0 + 1) else if e = 16 then M else fm_sI (fm_sI (fm_sI (fm_sI M 207 e j) 208 e σ) 209 e 1) 174 44 (nI (e + 1))
theorem e_smp (he : M.1 174 44 = nI e) (he6 : e ≤ 16) : ∀ (k i n : Nat), i + k = e → k < n → h_Mo_sample_2 n 174 j σ (nI i) M = some (smp M j σ e (fd (M.1 207) (M.1 208) j σ k i))
  | 0, i, n + 1, hi, _ => by
    have : i = e := by omega
    subst this
    unfold smp
    rw [h_Mo_sample_2, gi_e cl_174, ob_e, he, if_pos (nI_le (Nat.le_refl _) (by omega)), ob_e, fd, if_neg (Nat.lt_irrefl _)]
    by_cases h16 : i = 16
    · subst h16
      rw [if_pos (by decide), if_pos rfl]
    · have e1 : ∀ v w : Int32, (fm_sI (fm_sI M 207 i v) 208 i w).1 174 44 = nI i := fun v w => by rw [sI_r, if_neg (by omega), sI_r, if_neg (by omega)]; exact he
      have e2 : (fm_sI M 207 i j).1 174 44 = nI i := by rw [sI_r, if_neg (by omega)]; exact he
      have e3 : ∀ v : Int32, (fm_sI (fm_sI (fm_sI M 207 i j) 208 i σ) 209 i v).1 174 44 = nI i := fun v => by rw [sI_r, if_neg (by omega)]; exact e1 _ _
      rw [if_neg (show ¬ nI i = 16 from fun h => h16 ((nI_eq (b := 16) (by omega) (by decide)).mp h)), if_neg h16, gr_174_45, ob_e, ob_e, si_n an_207 (by omega) (by decide), ob_e, gr_174_46, ob_e, gi_e cl_174, ob_e, e2, si_n an_208 (by omega) (by decide), ob_e, gr_174_47, ob_e, gi_e cl_174, ob_e, e1, si_n an_209 (by omega) (by decide), ob_e, gi_e cl_174, ob_e, e3, nI_1, pi_e cl_174, ob_e]
  | k + 1, i, n + 1, hi, hn => by
    have ih := e_smp he he6 k (i + 1) n (by omega) (by omega)
    rw [h_Mo_sample_2, gi_e cl_174, ob_e, he, if_neg (nI_ge (by omega) (by omega)), gr_174_45, ob_e, ai_n an_207 (by omega) (by decide), ob_e, fd]
    unfold j_Mo_sample_41
    by_cases h1 : M.1 207 i = j
    · rw [if_pos h1, gr_174_46, ob_e, ai_n an_208 (by omega) (by decide), ob_e]
      by_cases h2 : M.1 208 i = σ
      · rw [if_pos h2, if_pos (show M.1 207 i = j ∧ M.1 208 i = σ from ⟨h1, h2⟩)]
        unfold smp
        rw [gr_174_47, ob_e, ai_n an_209 (by omega) (by decide), ob_e, si_n an_209 (by omega) (by decide), ob_e, if_pos (by omega)]
      · rw [if_neg h2, if_neg (fun h => h2 h.2), nI_1]
        exact ih
    · rw [if_neg h1, if_neg (fun h => h1 h.1), nI_1]
      exact ih
/-- the class counts in its entry -/
theorem c_entry {D : Nat} (he : M.1 7 10 = nI e) (he6 : e ≤ 16) : ∃ M', f_Ledger_countInEntry 7 j σ (nI D) M = some M' ∧ M'.2 = M.2 ∧ (∀ q, ¬ (q = 7 ∨ q = 20 ∨ q = 21 ∨ q = 22) → M'.1 q = M.1 q) ∧ (∀ z, z ≠ 10 → M'.1 7 z = M.1 7 z) ∧ M'.1 7 10 = nI (if fd (M.1 20) (M.1 21) j σ e 0 = e ∧ e < 16 then e + 1 else e) ∧ ∀ z, z < 16 → M'.1 20 z = (if fd (M.1 20) (M.1 21) j σ e 0 = e ∧ z = e then j else M.1 20 z) ∧ M'.1 21 z = (if fd (M.1 20) (M.1 21) j σ e 0 = e ∧ z = e then σ else M.1 21 z) ∧ M'.1 22 z = if z = fd (M.1 20) (M.1 21) j σ e 0 then M.1 22 z + nI D else M.1 22 z := by
  have hb := fd_b (es := M.1 20) (et := M.1 21) (j := j) (σ := σ) e 0
  have hk := e_fd (j := j) (σ := σ) he he6 e 0 100000 (by omega) (by omega)
  generalize fd (M.1 20) (M.1 21) j σ e 0 = k0 at hb hk ⊢
  have hk' : f_Ledger_entryOf 7 j σ M = some (nI k0, M) := hk
  by_cases h16 : k0 = 16
  · subst h16
    refine ⟨M, ?_, rfl, fun _ _ => rfl, fun _ _ => rfl, ?_, fun z hz => ⟨?_, ?_, ?_⟩⟩
    · unfold f_Ledger_countInEntry
      rw [ck_e cl_7, ob_e, hk', bd_e, if_pos (by decide)]
    · rw [if_neg (by omega)]; exact he
    · rw [if_neg (by omega)]
    · rw [if_neg (by omega)]
    · rw [if_neg (by omega)]
  · by_cases hke : k0 = e
    · subst hke
      have g1 : (fm_sI (fm_sI M 20 k0 j) 21 k0 σ).1 7 10 = nI k0 := by rw [sI_r, if_neg (by omega), sI_r, if_neg (by omega)]; exact he
      have g2 : (fm_sI (fm_sI (fm_sI M 20 k0 j) 21 k0 σ) 7 10 (nI (k0 + 1))).1 22 k0 = M.1 22 k0 := by rw [sI_r, if_neg (by omega), sI_r, if_neg (by omega), sI_r, if_neg (by omega)]
      refine ⟨fm_sI (fm_sI (fm_sI (fm_sI M 20 k0 j) 21 k0 σ) 7 10 (nI (k0 + 1))) 22 k0 (M.1 22 k0 + nI D), ?_, rfl, fun q hq => ?_, fun z hz => ?_, ?_, fun z hz => ⟨?_, ?_, ?_⟩⟩
      · unfold f_Ledger_countInEntry j_Ledger_countInEntry_51
        rw [ck_e cl_7, ob_e, hk', bd_e, if_neg (show ¬ nI k0 = 16 from fun h => h16 ((nI_eq (b := 16) (by omega) (by decide)).mp h)), gi_e cl_7, ob_e, he, if_pos rfl, gr_7_6, ob_e, si_n an_20 (by omega) (by decide), ob_e, gr_7_7, ob_e, si_n an_21 (by omega) (by decide), ob_e, gi_e cl_7, ob_e, g1, nI_1, pi_e cl_7, ob_e, gr_7_8, ob_e, ai_n an_22 (by omega) (by decide), ob_e, g2, si_n an_22 (by omega) (by decide), ob_e]
      · rw [row_ne (by omega), row_ne (by omega), row_ne (by omega), row_ne (by omega)]
      · rw [sI_r, if_neg (by omega), sI_r, if_neg (by omega), sI_r, if_neg (by omega), sI_r, if_neg (by omega)]
      · rw [sI_r, if_neg (by omega), sI_r, if_pos ⟨rfl, rfl⟩, if_pos (by omega)]
      · rw [sI_r, if_neg (by omega), sI_r, if_neg (by omega), sI_r, if_neg (by omega), sI_r]
        simp
      · rw [sI_r, if_neg (by omega), sI_r, if_neg (by omega), sI_r]
        by_cases hz2 : z = k0
        · rw [if_pos ⟨rfl, hz2⟩, if_pos ⟨rfl, hz2⟩]
        · rw [if_neg (fun h => hz2 h.2), if_neg (fun h => hz2 h.2), sI_r, if_neg (by omega)]
      · rw [sI_r]
        by_cases hz2 : z = k0
        · rw [if_pos ⟨rfl, hz2⟩, if_pos hz2, hz2]
        · rw [if_neg (fun h => hz2 h.2), if_neg hz2, sI_r, if_neg (by omega), sI_r, if_neg (by omega), sI_r, if_neg (by omega)]
    · refine ⟨fm_sI M 22 k0 (M.1 22 k0 + nI D), ?_, rfl, fun q hq => row_ne (by omega), fun z hz => by rw [sI_r, if_neg (by omega)], ?_, fun z hz => ⟨?_, ?_, ?_⟩⟩
      · unfold f_Ledger_countInEntry j_Ledger_countInEntry_51
        rw [ck_e cl_7, ob_e, hk', bd_e, if_neg (show ¬ nI k0 = 16 from fun h => h16 ((nI_eq (b := 16) (by omega) (by decide)).mp h)), gi_e cl_7, ob_e, he, if_neg (fun h => hke ((nI_eq (by omega) (by omega)).mp h)), gr_7_8, ob_e, ai_n an_22 (by omega) (by decide), ob_e, si_n an_22 (by omega) (by decide), ob_e]
      · rw [sI_r, if_neg (by omega), if_neg (by omega)]; exact he
      · rw [sI_r, if_neg (by omega), if_neg (fun h => hke h.1)]
      · rw [sI_r, if_neg (by omega), if_neg (fun h => hke h.1)]
      · rw [sI_r]
        by_cases hz2 : z = k0
        · rw [if_pos ⟨rfl, hz2⟩, if_pos hz2, hz2]
        · rw [if_neg (fun h => hz2 h.2), if_neg hz2]
end FIND
