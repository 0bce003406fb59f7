/-! the memory, as rows to rewrite by -/
theorem gi_e {q c j : Nat} {M : fm_M} (h : cl q = some c) : gi q c j M = some (M.1 q j) := by simp [gi, h]
theorem pi_e {q c j : Nat} {v : Int32} {M : fm_M} (h : cl q = some c) : pi q c j v M = some (fm_sI M q j v) := by simp [pi, h]
theorem ck_e {q c : Nat} (h : cl q = some c) : ck q c = some () := by simp [ck, h]
theorem ai_e {q n : Nat} {i : Int32} {M : fm_M} (h : an q = some (.int, n)) (hi : inr i n = true) : ai q i M = some (M.1 q i.toInt.toNat) := by simp [ai, h, hi]
theorem si_e {q n : Nat} {i v : Int32} {M : fm_M} (h : an q = some (.int, n)) (hi : inr i n = true) : si q i v M = some (fm_sI M q i.toInt.toNat v) := by simp [si, h, hi]
theorem az_e {q n : Nat} {i : Int32} {M : fm_M} (h : an q = some (.boolean, n)) (hi : inr i n = true) : az q i M = some (M.1 q i.toInt.toNat) := by simp [az, h, hi]
theorem sz_e {q n : Nat} {i v : Int32} {M : fm_M} (h : an q = some (.boolean, n)) (hi : inr i n = true) : sz q i v M = some (fm_sI M q i.toInt.toNat v) := by simp [sz, h, hi]
theorem aj_e {q n : Nat} {i : Int32} {M : fm_M} (h : an q = some (.long, n)) (hi : inr i n = true) : aj q i M = some (M.2.1 q i.toInt.toNat) := by simp [aj, h, hi]
theorem sj_e {q n : Nat} {i : Int32} {v : Int64} {M : fm_M} (h : an q = some (.long, n)) (hi : inr i n = true) : sj q i v M = some (fm_sJ M q i.toInt.toNat v) := by simp [sj, h, hi]
theorem af_e {q n : Nat} {i : Int32} {M : fm_M} (h : an q = some (.float, n)) (hi : inr i n = true) : af q i M = some (M.2.2.1 q i.toInt.toNat) := by simp [af, h, hi]
theorem sf_e {q n : Nat} {i : Int32} {v : UInt32} {M : fm_M} (h : an q = some (.float, n)) (hi : inr i n = true) : sf q i v M = some (fm_sF M q i.toInt.toNat v) := by simp [sf, h, hi]
theorem ad_e {q n : Nat} {i : Int32} {M : fm_M} (h : an q = some (.double, n)) (hi : inr i n = true) : ad q i M = some (M.2.2.2 q i.toInt.toNat) := by simp [ad, h, hi]
theorem sd_e {q n : Nat} {i : Int32} {v : UInt64} {M : fm_M} (h : an q = some (.double, n)) (hi : inr i n = true) : sd q i v M = some (fm_sD M q i.toInt.toNat v) := by simp [sd, h, hi]
theorem ln_e {q n : Nat} (h : an q = some (.int, n)) (hq : q < 212) : ln q = some (nI n) := by simp [ln, h, hq, nI]
theorem bd_e {α β γ : Type} (x : α) (y : β) (f : α → β → Option γ) : bd (some (x, y)) f = f x y := rfl
theorem xd_l {α β : Type} (v : α) (M : fm_M) (f : α → fm_M → Option ((β ⊕ String) × fm_M)) : xd (some (.inl v, M)) f = f v M := rfl
theorem xd_r {α β : Type} (E : String) (M : fm_M) (f : α → fm_M → Option ((β ⊕ String) × fm_M)) : xd (some (.inr E, M)) f = some (.inr E, M) := rfl
theorem lt_l {α β : Type} (v : α) (M : fm_M) (f : α → fm_M → Option β) (g : String → fm_M → Option β) : lt (some (.inl v, M)) f g = f v M := rfl
theorem lt_r {α β : Type} (E : String) (M : fm_M) (f : α → fm_M → Option β) (g : String → fm_M → Option β) : lt (some (.inr E, M)) f g = g E M := rfl
theorem ob_e {α β : Type} (x : α) (f : α → Option β) : (some x).bind f = f x := rfl
theorem sI_r {M : fm_M} {k j q n : Nat} {v : Int32} : (fm_sI M k j v).1 q n = if q = k ∧ n = j then v else M.1 q n := rfl
theorem sI_2 {M : fm_M} {k j : Nat} {v : Int32} : (fm_sI M k j v).2 = M.2 := rfl
theorem sJ_1 {M : fm_M} {k j : Nat} {v : Int64} : (fm_sJ M k j v).1 = M.1 := rfl
theorem sJ_r {M : fm_M} {k j q n : Nat} {v : Int64} : (fm_sJ M k j v).2.1 q n = if q = k ∧ n = j then v else M.2.1 q n := rfl
theorem sJ_2 {M : fm_M} {k j : Nat} {v : Int64} : (fm_sJ M k j v).2.2 = M.2.2 := rfl
theorem sF_1 {M : fm_M} {k j : Nat} {v : UInt32} : (fm_sF M k j v).1 = M.1 := rfl
theorem sF_2 {M : fm_M} {k j : Nat} {v : UInt32} : (fm_sF M k j v).2.1 = M.2.1 := rfl
theorem sF_r {M : fm_M} {k j q n : Nat} {v : UInt32} : (fm_sF M k j v).2.2.1 q n = if q = k ∧ n = j then v else M.2.2.1 q n := rfl
theorem sF_3 {M : fm_M} {k j : Nat} {v : UInt32} : (fm_sF M k j v).2.2.2 = M.2.2.2 := rfl
theorem sD_1 {M : fm_M} {k j : Nat} {v : UInt64} : (fm_sD M k j v).1 = M.1 := rfl
theorem sD_2 {M : fm_M} {k j : Nat} {v : UInt64} : (fm_sD M k j v).2.1 = M.2.1 := rfl
theorem sD_3 {M : fm_M} {k j : Nat} {v : UInt64} : (fm_sD M k j v).2.2.1 = M.2.2.1 := rfl
theorem sD_r {M : fm_M} {k j q n : Nat} {v : UInt64} : (fm_sD M k j v).2.2.2 q n = if q = k ∧ n = j then v else M.2.2.2 q n := rfl
/-! small numbers -/
theorem nt {k : Nat} (h : k < 2147483648) : (nI k).toInt = (k : Int) := nI_toInt h
theorem tn {k : Nat} (h : k < 2147483648) : (nI k).toInt.toNat = k := by rw [nt h]; rfl
theorem inr_n {k n : Nat} (h : k < n) (hn : n < 2147483648) : inr (nI k) n = true := decide_eq_true (by rw [nt (by omega)]; omega)
theorem ai_n {q n k : Nat} {M : fm_M} (h : an q = some (.int, n)) (hk : k < n) (hn : n < 2147483648) : ai q (nI k) M = some (M.1 q k) := by rw [ai_e h (inr_n hk hn), tn (by omega)]
theorem si_n {q n k : Nat} {v : Int32} {M : fm_M} (h : an q = some (.int, n)) (hk : k < n) (hn : n < 2147483648) : si q (nI k) v M = some (fm_sI M q k v) := by rw [si_e h (inr_n hk hn), tn (by omega)]
theorem az_n {q n k : Nat} {M : fm_M} (h : an q = some (.boolean, n)) (hk : k < n) (hn : n < 2147483648) : az q (nI k) M = some (M.1 q k) := by rw [az_e h (inr_n hk hn), tn (by omega)]
theorem sz_n {q n k : Nat} {v : Int32} {M : fm_M} (h : an q = some (.boolean, n)) (hk : k < n) (hn : n < 2147483648) : sz q (nI k) v M = some (fm_sI M q k v) := by rw [sz_e h (inr_n hk hn), tn (by omega)]
theorem aj_n {q n k : Nat} {M : fm_M} (h : an q = some (.long, n)) (hk : k < n) (hn : n < 2147483648) : aj q (nI k) M = some (M.2.1 q k) := by rw [aj_e h (inr_n hk hn), tn (by omega)]
theorem sj_n {q n k : Nat} {v : Int64} {M : fm_M} (h : an q = some (.long, n)) (hk : k < n) (hn : n < 2147483648) : sj q (nI k) v M = some (fm_sJ M q k v) := by rw [sj_e h (inr_n hk hn), tn (by omega)]
theorem af_n {q n k : Nat} {M : fm_M} (h : an q = some (.float, n)) (hk : k < n) (hn : n < 2147483648) : af q (nI k) M = some (M.2.2.1 q k) := by rw [af_e h (inr_n hk hn), tn (by omega)]
theorem sf_n {q n k : Nat} {v : UInt32} {M : fm_M} (h : an q = some (.float, n)) (hk : k < n) (hn : n < 2147483648) : sf q (nI k) v M = some (fm_sF M q k v) := by rw [sf_e h (inr_n hk hn), tn (by omega)]
theorem sd_n {q n k : Nat} {v : UInt64} {M : fm_M} (h : an q = some (.double, n)) (hk : k < n) (hn : n < 2147483648) : sd q (nI k) v M = some (fm_sD M q k v) := by rw [sd_e h (inr_n hk hn), tn (by omega)]
theorem ad_n {q n k : Nat} {M : fm_M} (h : an q = some (.double, n)) (hk : k < n) (hn : n < 2147483648) : ad q (nI k) M = some (M.2.2.2 q k) := by rw [ad_e h (inr_n hk hn), tn (by omega)]
theorem nI_sub {a b : Nat} (h : b ≤ a) : nI a - nI b = nI (a - b) := by
  apply Int32.toBitVec_inj.mp
  rw [Int32.toBitVec_sub]
  show BitVec.ofNat 32 a - BitVec.ofNat 32 b = BitVec.ofNat 32 (a - b)
  apply BitVec.eq_of_toNat_eq
  rw [BitVec.toNat_sub, BitVec.toNat_ofNat, BitVec.toNat_ofNat, BitVec.toNat_ofNat]
  omega
theorem nI_mul (a b : Nat) : nI a * nI b = nI (a * b) := (Int32.ofNat_mul a b).symm
/-- an int that isn't below 0 is a number -/
theorem nI_get {x : Int32} (h : 0 ≤ x.toInt) : ∃ k : Nat, k < 2147483648 ∧ x = nI k ∧ x.toInt = k := by
  have hx : x.toInt < 2147483648 := Int32.toInt_lt x
  refine ⟨x.toInt.toNat, by omega, Int32.toInt_inj.mp ?_, by omega⟩
  rw [nt (by omega)]
  omega
theorem lt0 {x : Int32} : x < 0 ↔ x.toInt < 0 := by rw [Int32.lt_iff_toInt_lt]; rfl
theorem ltn {x : Int32} {k : Nat} (h : k < 2147483648) : x < nI k ↔ x.toInt < k := by rw [Int32.lt_iff_toInt_lt, nt h]
theorem len {x : Int32} {k : Nat} (h : k < 2147483648) : nI k ≤ x ↔ (k : Int) ≤ x.toInt := by rw [Int32.le_iff_toInt_le, nt h]
theorem nlt {x : Int32} {k : Nat} (h : k < 2147483648) : nI k < x ↔ (k : Int) < x.toInt := by rw [Int32.lt_iff_toInt_lt, nt h]
theorem nle {x : Int32} {k : Nat} (h : k < 2147483648) : x ≤ nI k ↔ x.toInt ≤ k := by rw [Int32.le_iff_toInt_le, nt h]
/-! the cells, as rows to rewrite by -/
theorem cl_0 : cl 0 = some 9 := by decide +kernel
theorem gr_0_0 : gr 0 9 0 = some 1 := by decide +kernel
theorem gr_0_1 : gr 0 9 1 = some 2 := by decide +kernel
theorem gr_0_2 : gr 0 9 2 = some 4 := by decide +kernel
theorem gr_0_3 : gr 0 9 3 = some 5 := by decide +kernel
theorem gr_0_4 : gr 0 9 4 = some 7 := by decide +kernel
theorem gr_0_5 : gr 0 9 5 = some 165 := by decide +kernel
theorem gr_0_6 : gr 0 9 6 = some 171 := by decide +kernel
theorem cl_1 : cl 1 = some 5 := by decide +kernel
theorem gr_1_0 : gr 1 5 0 = some 2 := by decide +kernel
theorem gr_1_1 : gr 1 5 1 = some 4 := by decide +kernel
theorem gr_1_2 : gr 1 5 2 = some 5 := by decide +kernel
theorem gr_1_3 : gr 1 5 3 = some 7 := by decide +kernel
theorem gr_1_4 : gr 1 5 4 = some 23 := by decide +kernel
theorem cl_2 : cl 2 = some 8 := by decide +kernel
theorem gr_2_0 : gr 2 8 0 = some 3 := by decide +kernel
theorem cl_5 : cl 5 = some 3 := by decide +kernel
theorem gr_5_0 : gr 5 3 0 = some 6 := by decide +kernel
theorem cl_7 : cl 7 = some 4 := by decide +kernel
theorem gr_7_0 : gr 7 4 0 = some 8 := by decide +kernel
theorem gr_7_1 : gr 7 4 1 = some 12 := by decide +kernel
theorem gr_7_2 : gr 7 4 2 = some 16 := by decide +kernel
theorem gr_7_3 : gr 7 4 3 = some 17 := by decide +kernel
theorem gr_7_4 : gr 7 4 4 = some 18 := by decide +kernel
theorem gr_7_5 : gr 7 4 5 = some 19 := by decide +kernel
theorem gr_7_6 : gr 7 4 6 = some 20 := by decide +kernel
theorem gr_7_7 : gr 7 4 7 = some 21 := by decide +kernel
theorem gr_7_8 : gr 7 4 8 = some 22 := by decide +kernel
theorem cl_165 : cl 165 = some 1 := by decide +kernel
theorem gr_165_0 : gr 165 1 0 = some 169 := by decide +kernel
theorem gr_165_1 : gr 165 1 1 = some 170 := by decide +kernel
theorem gr_165_2 : gr 165 1 2 = some 166 := by decide +kernel
theorem gr_165_3 : gr 165 1 3 = some 167 := by decide +kernel
theorem gr_165_4 : gr 165 1 4 = some 168 := by decide +kernel
theorem cl_171 : cl 171 = some 0 := by decide +kernel
theorem gr_171_0 : gr 171 0 0 = some 172 := by decide +kernel
theorem gr_171_1 : gr 171 0 1 = some 173 := by decide +kernel
theorem cl_174 : cl 174 = some 10 := by decide +kernel
theorem gr_174_2 : gr 174 10 2 = some 175 := by decide +kernel
theorem gr_174_3 : gr 174 10 3 = some 176 := by decide +kernel
theorem gr_174_5 : gr 174 10 5 = some 177 := by decide +kernel
theorem gr_174_6 : gr 174 10 6 = some 178 := by decide +kernel
theorem gr_174_8 : gr 174 10 8 = some 179 := by decide +kernel
theorem gr_174_12 : gr 174 10 12 = some 180 := by decide +kernel
theorem gr_174_13 : gr 174 10 13 = some 181 := by decide +kernel
theorem gr_174_14 : gr 174 10 14 = some 182 := by decide +kernel
theorem gr_174_15 : gr 174 10 15 = some 183 := by decide +kernel
theorem gr_174_16 : gr 174 10 16 = some 184 := by decide +kernel
theorem gr_174_17 : gr 174 10 17 = some 185 := by decide +kernel
theorem gr_174_18 : gr 174 10 18 = some 186 := by decide +kernel
theorem gr_174_19 : gr 174 10 19 = some 187 := by decide +kernel
theorem gr_174_20 : gr 174 10 20 = some 188 := by decide +kernel
theorem gr_174_21 : gr 174 10 21 = some 189 := by decide +kernel
theorem gr_174_22 : gr 174 10 22 = some 190 := by decide +kernel
theorem gr_174_24 : gr 174 10 24 = some 191 := by decide +kernel
theorem gr_174_25 : gr 174 10 25 = some 192 := by decide +kernel
theorem gr_174_26 : gr 174 10 26 = some 193 := by decide +kernel
theorem gr_174_27 : gr 174 10 27 = some 194 := by decide +kernel
theorem gr_174_28 : gr 174 10 28 = some 195 := by decide +kernel
theorem gr_174_29 : gr 174 10 29 = some 196 := by decide +kernel
theorem gr_174_30 : gr 174 10 30 = some 197 := by decide +kernel
theorem gr_174_31 : gr 174 10 31 = some 198 := by decide +kernel
theorem gr_174_32 : gr 174 10 32 = some 199 := by decide +kernel
theorem gr_174_36 : gr 174 10 36 = some 200 := by decide +kernel
theorem gr_174_37 : gr 174 10 37 = some 201 := by decide +kernel
theorem gr_174_38 : gr 174 10 38 = some 202 := by decide +kernel
theorem gr_174_39 : gr 174 10 39 = some 203 := by decide +kernel
theorem gr_174_40 : gr 174 10 40 = some 204 := by decide +kernel
theorem gr_174_41 : gr 174 10 41 = some 205 := by decide +kernel
theorem gr_174_43 : gr 174 10 43 = some 206 := by decide +kernel
theorem gr_174_45 : gr 174 10 45 = some 207 := by decide +kernel
theorem gr_174_46 : gr 174 10 46 = some 208 := by decide +kernel
theorem gr_174_47 : gr 174 10 47 = some 209 := by decide +kernel
theorem an_3 : an 3 = some (.int, 6) := by decide +kernel
theorem an_6 : an 6 = some (.int, 400) := by decide +kernel
theorem an_16 : an 16 = some (.long, 78) := by decide +kernel
theorem an_17 : an 17 = some (.int, 78) := by decide +kernel
theorem an_18 : an 18 = some (.float, 78) := by decide +kernel
theorem an_19 : an 19 = some (.int, 3) := by decide +kernel
theorem an_20 : an 20 = some (.int, 16) := by decide +kernel
theorem an_21 : an 21 = some (.int, 16) := by decide +kernel
theorem an_22 : an 22 = some (.int, 16) := by decide +kernel
theorem an_166 : an 166 = some (.int, 2) := by decide +kernel
theorem an_167 : an 167 = some (.int, 2) := by decide +kernel
theorem an_168 : an 168 = some (.int, 2) := by decide +kernel
theorem an_169 : an 169 = some (.int, 24) := by decide +kernel
theorem an_170 : an 170 = some (.int, 24) := by decide +kernel
theorem an_172 : an 172 = some (.int, 24) := by decide +kernel
theorem an_173 : an 173 = some (.int, 168) := by decide +kernel
theorem an_175 : an 175 = some (.int, 6) := by decide +kernel
theorem an_176 : an 176 = some (.int, 6) := by decide +kernel
theorem an_177 : an 177 = some (.int, 24) := by decide +kernel
theorem an_178 : an 178 = some (.int, 24) := by decide +kernel
theorem an_179 : an 179 = some (.int, 6) := by decide +kernel
theorem an_180 : an 180 = some (.boolean, 6) := by decide +kernel
theorem an_181 : an 181 = some (.int, 6) := by decide +kernel
theorem an_182 : an 182 = some (.int, 144) := by decide +kernel
theorem an_183 : an 183 = some (.int, 144) := by decide +kernel
theorem an_184 : an 184 = some (.int, 6) := by decide +kernel
theorem an_185 : an 185 = some (.int, 36) := by decide +kernel
theorem an_186 : an 186 = some (.int, 6) := by decide +kernel
theorem an_187 : an 187 = some (.int, 168) := by decide +kernel
theorem an_188 : an 188 = some (.int, 168) := by decide +kernel
theorem an_189 : an 189 = some (.int, 36) := by decide +kernel
theorem an_190 : an 190 = some (.int, 144) := by decide +kernel
theorem an_191 : an 191 = some (.boolean, 250) := by decide +kernel
theorem an_192 : an 192 = some (.int, 3) := by decide +kernel
theorem an_193 : an 193 = some (.int, 3) := by decide +kernel
theorem an_194 : an 194 = some (.int, 3) := by decide +kernel
theorem an_195 : an 195 = some (.int, 15) := by decide +kernel
theorem an_196 : an 196 = some (.int, 15) := by decide +kernel
theorem an_197 : an 197 = some (.int, 15) := by decide +kernel
theorem an_198 : an 198 = some (.int, 60) := by decide +kernel
theorem an_199 : an 199 = some (.int, 90) := by decide +kernel
theorem an_200 : an 200 = some (.int, 401) := by decide +kernel
theorem an_201 : an 201 = some (.long, 252) := by decide +kernel
theorem an_202 : an 202 = some (.long, 252) := by decide +kernel
theorem an_203 : an 203 = some (.int, 84) := by decide +kernel
theorem an_204 : an 204 = some (.float, 84) := by decide +kernel
theorem an_205 : an 205 = some (.long, 84) := by decide +kernel
theorem an_206 : an 206 = some (.int, 3) := by decide +kernel
theorem an_207 : an 207 = some (.int, 16) := by decide +kernel
theorem an_208 : an 208 = some (.int, 16) := by decide +kernel
theorem an_209 : an 209 = some (.int, 16) := by decide +kernel
theorem an_210 : an 210 = some (.long, 1) := by decide +kernel
theorem an_211 : an 211 = some (.double, 1) := by decide +kernel
/-! families of cells -/
theorem ar_m : ∀ m, m < 6 → ar 4 (nI m) = some (24 + 15 * m) := by decide +kernel
theorem cl_m : ∀ m, m < 6 → cl (24 + 15 * m) = some 6 := by decide +kernel
theorem gr_m0 : ∀ m, m < 6 → gr (24 + 15 * m) 6 0 = some (25 + 15 * m) := by decide +kernel
theorem gr_m1 : ∀ m, m < 6 → gr (24 + 15 * m) 6 1 = some (31 + 15 * m) := by decide +kernel
theorem gr_m2 : ∀ m, m < 6 → gr (24 + 15 * m) 6 2 = some (37 + 15 * m) := by decide +kernel
theorem gr_m3 : ∀ m, m < 6 → gr (24 + 15 * m) 6 3 = some (38 + 15 * m) := by decide +kernel
theorem an_m2 : ∀ m, m < 6 → an (37 + 15 * m) = some (.int, 24) := by decide +kernel
theorem an_m3 : ∀ m, m < 6 → an (38 + 15 * m) = some (.int, 25) := by decide +kernel
theorem ar_t : ∀ t, t < 3 → ar 23 (nI t) = some (114 + 17 * t) := by decide +kernel
theorem cl_t : ∀ t, t < 3 → cl (114 + 17 * t) = some 7 := by decide +kernel
theorem gr_t0 : ∀ t, t < 3 → gr (114 + 17 * t) 7 0 = some (115 + 17 * t) := by decide +kernel
theorem ar_f : ∀ t, t < 3 → ∀ f, f < 5 → ar (115 + 17 * t) (nI f) = some (116 + 17 * t + 3 * f) := by decide +kernel
theorem cl_f : ∀ t, t < 3 → ∀ f, f < 5 → cl (116 + 17 * t + 3 * f) = some 2 := by decide +kernel
theorem gr_f0 : ∀ t, t < 3 → ∀ f, f < 5 → gr (116 + 17 * t + 3 * f) 2 0 = some (116 + 17 * t + 3 * f + 1) := by decide +kernel
theorem gr_f1 : ∀ t, t < 3 → ∀ f, f < 5 → gr (116 + 17 * t + 3 * f) 2 1 = some (116 + 17 * t + 3 * f + 2) := by decide +kernel
theorem an_f0 : ∀ t, t < 3 → ∀ f, f < 5 → an (116 + 17 * t + 3 * f + 1) = some (.int, 4) := by decide +kernel
theorem an_f1 : ∀ t, t < 3 → ∀ f, f < 5 → an (116 + 17 * t + 3 * f + 2) = some (.int, 5) := by decide +kernel
theorem ar_8 : ∀ t, t < 3 → ar 8 (nI t) = some (9 + t) := by decide +kernel
theorem an_9 : ∀ t, t < 3 → an (9 + t) = some (.int, 78) := by decide +kernel
theorem ar_12 : ∀ t, t < 3 → ar 12 (nI t) = some (13 + t) := by decide +kernel
theorem an_13 : ∀ t, t < 3 → an (13 + t) = some (.long, 78) := by decide +kernel
/-- a cell that is a Code, with room for n instructions -/
def cdq (q n : Nat) : Prop := cl q = some 1 ∧ gr q 1 0 = some (q + 4) ∧ gr q 1 1 = some (q + 5) ∧ gr q 1 2 = some (q + 1) ∧ gr q 1 3 = some (q + 2) ∧ gr q 1 4 = some (q + 3) ∧ an (q + 4) = some (.int, n) ∧ an (q + 5) = some (.int, n) ∧ an (q + 1) = some (.int, 2) ∧ an (q + 2) = some (.int, 2) ∧ an (q + 3) = some (.int, 2) ∧ q + 6 < 212
theorem cd_o : ∀ m, m < 6 → cdq (25 + 15 * m) 24 := by unfold cdq; decide +kernel
theorem cd_w : ∀ m, m < 6 → cdq (31 + 15 * m) 28 := by unfold cdq; decide +kernel
theorem cd_d : cdq 165 24 := by unfold cdq; decide +kernel
/-- the rows that may have changed -/
def sm (S : Nat → Prop) (M M' : fm_M) : Prop := ∀ k, ¬ S k → M'.1 k = M.1 k ∧ M'.2.1 k = M.2.1 k ∧ M'.2.2.1 k = M.2.2.1 k ∧ M'.2.2.2 k = M.2.2.2 k
theorem sm_refl (S : Nat → Prop) (M : fm_M) : sm S M M := fun _ _ => ⟨rfl, rfl, rfl, rfl⟩
theorem sm_trans {S : Nat → Prop} {M M1 M2 : fm_M} (h1 : sm S M M1) (h2 : sm S M1 M2) : sm S M M2 := fun k hk => by
  obtain ⟨a, b, c, d⟩ := h1 k hk
  obtain ⟨a', b', c', d'⟩ := h2 k hk
  exact ⟨a'.trans a, b'.trans b, c'.trans c, d'.trans d⟩
theorem sm_mono {S S' : Nat → Prop} {M M' : fm_M} (h : sm S M M') (hs : ∀ k, S k → S' k) : sm S' M M' := fun k hk => h k (fun q => hk (hs k q))
theorem sm_I {S : Nat → Prop} {M M' : fm_M} {q j : Nat} {v : Int32} (h : sm S M M') (hq : S q) : sm S M (fm_sI M' q j v) := fun k hk => by
  obtain ⟨a, b, c, d⟩ := h k hk
  exact ⟨(fm_u_ne (fun e : k = q => hk (by rw [e]; exact hq))).trans a, b, c, d⟩
theorem sm_J {S : Nat → Prop} {M M' : fm_M} {q j : Nat} {v : Int64} (h : sm S M M') (hq : S q) : sm S M (fm_sJ M' q j v) := fun k hk => by
  obtain ⟨a, b, c, d⟩ := h k hk
  exact ⟨a, (fm_u_ne (fun e : k = q => hk (by rw [e]; exact hq))).trans b, c, d⟩
theorem sm_F {S : Nat → Prop} {M M' : fm_M} {q j : Nat} {v : UInt32} (h : sm S M M') (hq : S q) : sm S M (fm_sF M' q j v) := fun k hk => by
  obtain ⟨a, b, c, d⟩ := h k hk
  exact ⟨a, b, (fm_u_ne (fun e : k = q => hk (by rw [e]; exact hq))).trans c, d⟩
theorem sm_D {S : Nat → Prop} {M M' : fm_M} {q j : Nat} {v : UInt64} (h : sm S M M') (hq : S q) : sm S M (fm_sD M' q j v) := fun k hk => by
  obtain ⟨a, b, c, d⟩ := h k hk
  exact ⟨a, b, c, (fm_u_ne (fun e : k = q => hk (by rw [e]; exact hq))).trans d⟩
