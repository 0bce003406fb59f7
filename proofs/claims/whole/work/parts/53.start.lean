/-! fill; a frame; start -/
def fillM (M : fm_M) (q n : Nat) (v : Int32) : fm_M := (fun k j => if k = q ∧ j < n then v else M.1 k j, M.2)
theorem fill_s {M : fm_M} {q i : Nat} {v : Int32} : fm_sI (fillM M q i v) q i v = fillM M q (i + 1) v := by
  show (fm_u (fillM M q i v).1 q i v, M.2) = (fun k j => if k = q ∧ j < i + 1 then v else M.1 k j, M.2)
  congr 1
  funext k j
  simp only [fm_u, fillM]
  by_cases h1 : k = q
  · by_cases h2 : j = i
    · rw [if_pos ⟨h1, h2⟩, if_pos ⟨h1, by omega⟩]
    · rw [if_neg (fun h => h2 h.2)]
      by_cases h3 : j < i
      · rw [if_pos ⟨h1, h3⟩, if_pos ⟨h1, by omega⟩]
      · rw [if_neg (fun h => h3 h.2), if_neg (fun h => by have := h.2; omega)]
  · rw [if_neg (fun h => h1 h.1), if_neg (fun h => h1 h.1), if_neg (fun h => h1 h.1)]
theorem e_fill_l {M : fm_M} {q n : Nat} {v : Int32} (ha : an q = some (.int, n)) (hn : n < 1000) : ∀ (k i f : Nat), i + k = n → k < f → h_Arrays_fill_5 f q v (nI i) (nI n) (fillM M q i v) = some (fillM M q n v)
  | 0, i, f + 1, hi, _ => by
    have : i = n := by omega
    subst this
    rw [h_Arrays_fill_5, if_pos (nI_le (Nat.le_refl _) (by omega))]
  | k + 1, i, f + 1, hi, hf => by
    rw [h_Arrays_fill_5, if_neg (nI_ge (by omega) (by omega)), si_n ha (by omega) (by omega), ob_e, fill_s, nI_1]
    exact e_fill_l ha hn k (i + 1) f (by omega) (by omega)
theorem e_fill {M : fm_M} {q n : Nat} {v : Int32} (ha : an q = some (.int, n)) (hq : q < 212) (hn : n < 1000) : f_Arrays_fill q v M = some (fillM M q n v) := by
  unfold f_Arrays_fill
  rw [ln_e ha hq, ob_e]
  have h0 : fillM M q 0 v = M := by
    show (fun k j => if k = q ∧ j < 0 then v else M.1 k j, M.2) = M
    congr 1
    funext k j
    rw [if_neg (fun h => Nat.not_lt_zero _ h.2)]
  have := e_fill_l (M := M) (v := v) ha hn n 0 100000 (by omega) (by omega)
  rw [h0] at this
  exact this
section FRAME
variable {t f : Nat} {M : fm_M}
theorem e_push {d : Nat} {v : Int32} (ht : t < 3) (hf : f < 5) (hd : M.1 (116 + 17 * t + 3 * f) 4 = nI d) (h5 : d < 5) : f_Frame_push (116 + 17 * t + 3 * f) v M = some (fm_sI (fm_sI M (116 + 17 * t + 3 * f + 2) d v) (116 + 17 * t + 3 * f) 4 (nI (d + 1))) := by
  have e1 : (fm_sI M (116 + 17 * t + 3 * f + 2) d v).1 (116 + 17 * t + 3 * f) 4 = nI d := by rw [sI_r, if_neg (by omega)]; exact hd
  unfold f_Frame_push
  rw [gi_e (cl_f t ht f hf), ob_e, hd, if_neg (show ¬ 5 ≤ nI d from nI_ge (b := 5) h5 (by decide)), gr_f1 t ht f hf, ob_e, ob_e, si_n (an_f1 t ht f hf) h5 (by decide), ob_e, gi_e (cl_f t ht f hf), ob_e, e1, nI_1, pi_e (cl_f t ht f hf), ob_e]
theorem e_pop {d : Nat} (ht : t < 3) (hf : f < 5) (hd : M.1 (116 + 17 * t + 3 * f) 4 = nI (d + 1)) (h5 : d < 5) : f_Frame_pop (116 + 17 * t + 3 * f) M = some (M.1 (116 + 17 * t + 3 * f + 2) d, fm_sI M (116 + 17 * t + 3 * f) 4 (nI d)) := by
  unfold f_Frame_pop
  rw [gi_e (cl_f t ht f hf), ob_e, hd, if_neg (nI_ne0 (by omega) (by omega)), ob_e, nI_pred, pi_e (cl_f t ht f hf), ob_e, gr_f1 t ht f hf, ob_e, gi_e (cl_f t ht f hf), ob_e, show (fm_sI M (116 + 17 * t + 3 * f) 4 (nI d)).1 (116 + 17 * t + 3 * f) 4 = nI d by rw [sI_r, if_pos ⟨rfl, rfl⟩], ai_n (an_f1 t ht f hf) h5 (by decide), ob_e, sI_r, if_neg (by omega)]
theorem e_begin {m x : Int32} (ht : t < 3) (hf : f < 5) : f_Frame_begin (116 + 17 * t + 3 * f) m x M = some (fm_sI (fillM (fm_sI (fm_sI (fm_sI M (116 + 17 * t + 3 * f) 2 m) (116 + 17 * t + 3 * f) 3 0) (116 + 17 * t + 3 * f) 4 0) (116 + 17 * t + 3 * f + 1) 4 0) (116 + 17 * t + 3 * f + 1) 0 x) := by
  unfold f_Frame_begin
  rw [pi_e (cl_f t ht f hf), ob_e, pi_e (cl_f t ht f hf), ob_e, pi_e (cl_f t ht f hf), ob_e, gr_f0 t ht f hf, ob_e, e_fill (an_f0 t ht f hf) (by omega) (by decide), ob_e, ob_e, show (0 : Int32) = nI 0 from rfl, si_n (an_f0 t ht f hf) (by decide) (by decide), ob_e]
theorem e_enter {a : Nat} {m x : Int32} (ht : t < 3) (ha : M.1 (114 + 17 * t) 2 = nI a) (ha5 : a < 5) : ∃ M', f_Strand_enter (114 + 17 * t) m x M = some M' ∧ M'.2 = M.2 ∧ (∀ k, ¬ (k = 114 + 17 * t ∨ k = 116 + 17 * t + 3 * a ∨ k = 116 + 17 * t + 3 * a + 1) → M'.1 k = M.1 k) ∧ (∀ j, M'.1 (114 + 17 * t) j = if j = 2 then nI (a + 1) else M.1 (114 + 17 * t) j) ∧ M'.1 (116 + 17 * t + 3 * a) 2 = m ∧ M'.1 (116 + 17 * t + 3 * a) 3 = 0 ∧ M'.1 (116 + 17 * t + 3 * a) 4 = 0 ∧ ∀ j, j < 4 → M'.1 (116 + 17 * t + 3 * a + 1) j = if j = 0 then x else 0 := by
  generalize hM1 : fm_sI (fillM (fm_sI (fm_sI (fm_sI M (116 + 17 * t + 3 * a) 2 m) (116 + 17 * t + 3 * a) 3 0) (116 + 17 * t + 3 * a) 4 0) (116 + 17 * t + 3 * a + 1) 4 0) (116 + 17 * t + 3 * a + 1) 0 x = M1
  have r1 : ∀ k j, ¬ (k = 116 + 17 * t + 3 * a ∨ k = 116 + 17 * t + 3 * a + 1) → M1.1 k j = M.1 k j := by
    intro k j hk
    rw [← hM1]
    simp only [sI_r, fillM]
    rw [if_neg (by omega), if_neg (by omega), if_neg (by omega), if_neg (by omega), if_neg (by omega)]
  refine ⟨fm_sI M1 (114 + 17 * t) 2 (nI (a + 1)), ?_, by rw [← hM1]; rfl, fun k hk => ?_, fun j => ?_, ?_, ?_, ?_, fun j hj => ?_⟩
  · unfold f_Strand_enter f_Strand_isDeep
    rw [ck_e (cl_t t ht), ob_e, gi_e (cl_t t ht), ob_e, ha, if_pos (show nI a < 5 from nI_lt (b := 5) ha5 (by decide)), bd_e, if_pos rfl, gr_t0 t ht, ob_e, gi_e (cl_t t ht), ob_e, ha, ar_f t ht a ha5, ob_e, ck_e (cl_f t ht a ha5), ob_e, e_begin ht ha5, hM1, ob_e, gi_e (cl_t t ht), ob_e, r1 _ _ (by omega), ha, nI_1, pi_e (cl_t t ht), ob_e]
  · funext j
    rw [sI_r, if_neg (by omega), r1 _ _ (by omega)]
  · rw [sI_r]
    by_cases h : j = 2
    · rw [if_pos ⟨rfl, h⟩, if_pos h]
    · rw [if_neg (fun h9 => h h9.2), if_neg h, r1 _ _ (by omega)]
  · rw [sI_r, if_neg (by omega), ← hM1]
    simp only [sI_r, fillM]
    rw [if_neg (by omega), if_neg (by omega), if_neg (by omega), if_neg (by omega), if_pos (by simp)]
  · rw [sI_r, if_neg (by omega), ← hM1]
    simp only [sI_r, fillM]
    rw [if_neg (by omega), if_neg (by omega), if_neg (by omega), if_pos (by simp)]
  · rw [sI_r, if_neg (by omega), ← hM1]
    simp only [sI_r, fillM]
    rw [if_neg (by omega), if_neg (by omega), if_pos (by simp)]
  · rw [sI_r, if_neg (by omega), ← hM1]
    simp only [sI_r, fillM]
    by_cases h : j = 0
    · rw [if_pos ⟨trivial, h⟩, if_pos h]
    · rw [if_neg (fun h9 => h h9.2), if_neg h, if_pos ⟨trivial, hj⟩]
/-- the reference's -/
theorem e_menter {a : Nat} {m x : Int32} (ht : t < 3) (ha : M.1 192 t = nI a) (ha5 : a < 5) : ∃ M', f_Mo_enter 174 (nI t) m x M = some M' ∧ M'.2 = M.2 ∧ (∀ k, ¬ (k = 192 ∨ k = 195 ∨ k = 196 ∨ k = 197 ∨ k = 198) → M'.1 k = M.1 k) ∧ (∀ j, M'.1 192 j = if j = t then nI (a + 1) else M.1 192 j) ∧ (∀ j, M'.1 195 j = if j = 5 * t + a then m else M.1 195 j) ∧ (∀ j, M'.1 196 j = if j = 5 * t + a then 0 else M.1 196 j) ∧ (∀ j, M'.1 197 j = if j = 5 * t + a then 0 else M.1 197 j) ∧ ∀ j, M'.1 198 j = if j = 4 * (5 * t + a) then x else if 4 * (5 * t + a) < j ∧ j < 4 * (5 * t + a) + 4 then 0 else M.1 198 j := by
  have hF : ((5 : Int32) * nI t) + nI a = nI (5 * t + a) := by rw [show (5 : Int32) * nI t = nI (5 * t) from nI_mul 5 t, nI_add]
  have h4 : ∀ j : Nat, ((4 : Int32) * nI (5 * t + a)) + nI j = nI (4 * (5 * t + a) + j) := fun j => by rw [show (4 : Int32) * nI (5 * t + a) = nI (4 * (5 * t + a)) from nI_mul 4 _, nI_add]
  generalize hM1 : fm_sI (fm_sI (fm_sI M 195 (5 * t + a) m) 196 (5 * t + a) 0) 197 (5 * t + a) 0 = M1
  generalize hM2 : fm_sI (fm_sI (fm_sI (fm_sI M1 198 (4 * (5 * t + a) + 0) x) 198 (4 * (5 * t + a) + 1) 0) 198 (4 * (5 * t + a) + 2) 0) 198 (4 * (5 * t + a) + 3) 0 = M2
  have r2 : ∀ k j, k ≠ 195 → k ≠ 196 → k ≠ 197 → k ≠ 198 → M2.1 k j = M.1 k j := by
    intro k j g1 g2 g3 g4
    rw [← hM2, ← hM1]
    simp only [sI_r]
    rw [if_neg (by omega), if_neg (by omega), if_neg (by omega), if_neg (by omega), if_neg (by omega), if_neg (by omega), if_neg (by omega)]
  refine ⟨fm_sI M2 192 t (nI (a + 1)), ?_, by rw [← hM2, ← hM1]; rfl, fun k hk => ?_, fun j => ?_, fun j => ?_, fun j => ?_, fun j => ?_, fun j => ?_⟩
  · unfold f_Mo_enter
    rw [gr_174_25, ob_e, ai_n an_192 ht (by decide), ob_e, ha, hF, gr_174_28, ob_e, si_n an_195 (by omega) (by decide), ob_e, gr_174_29, ob_e, si_n an_196 (by omega) (by decide), ob_e, gr_174_30, ob_e, si_n an_197 (by omega) (by decide), ob_e, hM1]
    rw [show (0 : Int32) = nI 0 from rfl, h_Mo_enter_39, if_neg (by decide), gr_174_31, ob_e, if_pos (by decide)]
    unfold j_Mo_enter_66
    rw [h4, si_n an_198 (by omega) (by decide), ob_e, nI_1, h_Mo_enter_39, if_neg (by decide), gr_174_31, ob_e, if_neg (by decide)]
    unfold j_Mo_enter_66
    rw [h4, si_n an_198 (by omega) (by decide), ob_e, nI_1, h_Mo_enter_39, if_neg (by decide), gr_174_31, ob_e, if_neg (by decide)]
    unfold j_Mo_enter_66
    rw [h4, si_n an_198 (by omega) (by decide), ob_e, nI_1, h_Mo_enter_39, if_neg (by decide), gr_174_31, ob_e, if_neg (by decide)]
    unfold j_Mo_enter_66
    rw [h4, si_n an_198 (by omega) (by decide), ob_e, nI_1, h_Mo_enter_39, if_pos (by decide), gr_174_25, ob_e]
    rw [show fm_sI (fm_sI (fm_sI (fm_sI M1 198 (4 * (5 * t + a) + 0) x) 198 (4 * (5 * t + a) + (0 + 1)) 0) 198 (4 * (5 * t + a) + (0 + 1 + 1)) 0) 198 (4 * (5 * t + a) + (0 + 1 + 1 + 1)) 0 = M2 from hM2, ai_n an_192 ht (by decide), ob_e, r2 192 t (by decide) (by decide) (by decide) (by decide), ha, nI_1, si_n an_192 ht (by decide), ob_e]
  · funext j
    rw [sI_r, if_neg (by omega), r2 _ _ (by omega) (by omega) (by omega) (by omega)]
  · rw [sI_r]
    by_cases h : j = t
    · rw [if_pos ⟨rfl, h⟩, if_pos h]
    · rw [if_neg (fun h9 => h h9.2), if_neg h, r2 _ _ (by omega) (by omega) (by omega) (by omega)]
  · rw [sI_r, if_neg (by omega), ← hM2, ← hM1]
    simp only [sI_r]
    rw [if_neg (by omega), if_neg (by omega), if_neg (by omega), if_neg (by omega), if_neg (by omega), if_neg (by omega)]
    simp
  · rw [sI_r, if_neg (by omega), ← hM2, ← hM1]
    simp only [sI_r]
    rw [if_neg (by omega), if_neg (by omega), if_neg (by omega), if_neg (by omega), if_neg (by omega)]
    simp
  · rw [sI_r, if_neg (by omega), ← hM2, ← hM1]
    simp only [sI_r]
    rw [if_neg (by omega), if_neg (by omega), if_neg (by omega), if_neg (by omega)]
    simp
  · rw [sI_r, if_neg (by omega), ← hM2]
    simp only [sI_r]
    have e1 : M1.1 198 j = M.1 198 j := by
      rw [← hM1]
      simp only [sI_r]
      rw [if_neg (by omega), if_neg (by omega), if_neg (by omega)]
    rw [e1]
    by_cases h3 : j = 4 * (5 * t + a) + 3
    · rw [if_pos ⟨trivial, h3⟩, if_neg (by omega), if_pos (by omega)]
    · rw [if_neg (fun h9 => h3 h9.2)]
      by_cases h2 : j = 4 * (5 * t + a) + 2
      · rw [if_pos ⟨trivial, h2⟩, if_neg (by omega), if_pos (by omega)]
      · rw [if_neg (fun h9 => h2 h9.2)]
        by_cases h1 : j = 4 * (5 * t + a) + 1
        · rw [if_pos ⟨trivial, h1⟩, if_neg (by omega), if_pos (by omega)]
        · rw [if_neg (fun h9 => h1 h9.2)]
          by_cases h0 : j = 4 * (5 * t + a)
          · rw [if_pos ⟨trivial, h0⟩, if_pos h0]
          · rw [if_neg (fun h9 => h0 h9.2), if_neg h0, if_neg (by omega)]
end FRAME
