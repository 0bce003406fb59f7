/-! floats: nothing comes to be a NaN -/
def pd (d : FP.Core.Datum) : Prop := (∃ c q, d = .fin false c q) ∨ d = .inf false
theorem pd_nn {d : FP.Core.Datum} (h : pd d) : d ≠ .nan := by
  rcases h with ⟨c, q, rfl⟩ | rfl <;> intro h <;> cases h
theorem pd_rr (f : FP.Core.Fmt) (A B : Nat) (e : Int) : pd (FP.Core.roundRatio f false A B e) := FP.Core.roundRatio_cases f false A B e
theorem pd_round {f : FP.Core.Fmt} {d : FP.Core.Datum} (h : pd d) : pd (FP.Core.round f d) := by
  rcases h with ⟨c, q, rfl⟩ | rfl
  · exact pd_rr f c 1 q
  · exact Or.inr rfl
theorem pd_mul {d : FP.Core.Datum} {k : Nat} {q : Int} (h : pd d) (hk : k ≠ 0) : pd (FP.Core.exactProduct d (.fin false k q)) := by
  rcases h with ⟨c, q, rfl⟩ | rfl
  · exact Or.inl ⟨_, _, rfl⟩
  · show pd (if k = 0 then .nan else .inf (false != false))
    rw [if_neg hk]
    exact Or.inr rfl
theorem pd_mulf {c k : Nat} {q r : Int} : pd (FP.Core.exactProduct (.fin false c q) (.fin false k r)) := Or.inl ⟨_, _, rfl⟩
theorem pd_add {d e : FP.Core.Datum} (h : pd d) (h2 : pd e) : pd (FP.Core.exactSum d e) := by
  rcases h with ⟨c, q, rfl⟩ | rfl <;> rcases h2 with ⟨c2, q2, rfl⟩ | rfl
  · refine Or.inl ⟨(FP.Core.sumUnits false c q false c2 q2 (min q q2)).natAbs, min q q2, ?_⟩
    show FP.Core.Datum.fin (FP.Core.sumSign false false (FP.Core.sumUnits false c q false c2 q2 (min q q2))) _ _ = _
    have h0 : 0 ≤ FP.Core.sumUnits false c q false c2 q2 (min q q2) := by
      show (0 : Int) ≤ (FP.Core.inUnits c q (min q q2) : Int) + (FP.Core.inUnits c2 q2 (min q q2) : Int)
      omega
    have h1 : FP.Core.sumSign false false (FP.Core.sumUnits false c q false c2 q2 (min q q2)) = false := by
      unfold FP.Core.sumSign
      split
      · rfl
      · exact decide_eq_false (by omega)
    rw [h1]
  · exact Or.inr rfl
  · exact Or.inr rfl
  · exact Or.inr rfl
theorem pd_div {f : FP.Core.Fmt} {d : FP.Core.Datum} {k : Nat} {q : Int} (h : pd d) (hk : k ≠ 0) : pd (FP.Core.quotient f d (.fin false k q)) := by
  rcases h with ⟨c, r, rfl⟩ | rfl
  · show pd (if k = 0 then _ else FP.Core.roundRatio f (false != false) c k (r - q))
    rw [if_neg hk]
    exact pd_rr f c k (r - q)
  · exact Or.inr rfl
theorem pos_e (r : UInt32) : pos32 r = pd (FP.Core.val32 r) := rfl
def pos64 (r : UInt64) : Prop := pd (FP.Core.val64 r)
theorem pos_nn {r : UInt32} (h : pos32 r) : nn32 r = some () := by
  have h1 := (FP.Core.ne_nan32 r).mp (pd_nn h)
  unfold nn32
  rw [if_pos]
  rw [UInt32.le_iff_toNat_le, UInt32.toNat_and]
  show r.toNat &&& 2147483647 ≤ 2139095040
  rw [Nat.and_two_pow_sub_one_eq_mod r.toNat 31]
  exact h1
theorem pos_nn64 {r : UInt64} (h : pos64 r) : nn64 r = some () := by
  have h1 := (FP.Core.ne_nan r).mp (pd_nn h)
  unfold nn64
  rw [if_pos]
  rw [UInt64.le_iff_toNat_le, UInt64.toNat_and]
  show r.toNat &&& 9223372036854775807 ≤ 9218868437227405312
  rw [Nat.and_two_pow_sub_one_eq_mod r.toNat 63]
  exact h1
theorem v_75 : FP.Core.val32 1061158912 = .fin false 12582912 (-24) := by decide +kernel
theorem v_25 : FP.Core.val32 1048576000 = .fin false 8388608 (-25) := by decide +kernel
theorem v_05 : FP.Core.val64 4602678819172646912 = .fin false 4503599627370496 (-53) := by decide +kernel
theorem pos_0 : pos32 0 := by
  rw [pos_e]
  exact Or.inl ⟨0, -149, by decide +kernel⟩
theorem pos64_0 : pos64 FP.dconst0 := Or.inl ⟨0, -1074, by decide +kernel⟩
theorem pos_75 {x : UInt32} (h : pos32 x) : pos32 (FP.fmul x 1061158912) := by
  rw [pos_e]
  show pd (FP.Core.val32 (FP.Core.fmul x 1061158912))
  rw [FP.Core.val32_fmul, v_75]
  exact pd_round (pd_mul h (by decide))
theorem pos_25 {x : UInt32} (h : pos32 x) : pos32 (FP.fmul x 1048576000) := by
  rw [pos_e]
  show pd (FP.Core.val32 (FP.Core.fmul x 1048576000))
  rw [FP.Core.val32_fmul, v_25]
  exact pd_round (pd_mul h (by decide))
theorem pos_add {x y : UInt32} (h : pos32 x) (h2 : pos32 y) : pos32 (FP.fadd x y) := by
  rw [pos_e]
  show pd (FP.Core.val32 (FP.Core.fadd x y))
  rw [FP.Core.val32_fadd]
  exact pd_round (pd_add h h2)
theorem lt_n {k : Nat} (h : k < 9223372036854775808) : (lN k).toInt = (k : Int) := lg_ofNat_toInt h
theorem l2f_n {k : Nat} (h : k < 9223372036854775808) : ∃ c q, FP.Core.val32 (FP.l2f (lN k)) = .fin false c q ∧ (0 < k → c ≠ 0) := by
  obtain ⟨c, q, h1⟩ := FP.Core.l2f_shape (lN k)
  have h2 : decide ((lN k).toInt < 0) = false := decide_eq_false (by rw [lt_n h]; omega)
  rw [h2] at h1
  refine ⟨c, q, h1, fun hk hc => ?_⟩
  subst hc
  have h3 := (FP.Core.zero_bits232 (FP.l2f (lN k))).mp ⟨false, q, h1⟩
  have h4 := (FP.Core.l2f_big (v := lN k) (by rw [lt_n h]; omega)).1
  have h5 : (FP.Core.l2f (lN k)).toNat % 2 ^ 31 = 0 := h3
  omega
theorem l2d_n {k : Nat} (h : k < 9223372036854775808) : ∃ c q, FP.Core.val64 (FP.l2d (lN k)) = .fin false c q ∧ (0 < k → c ≠ 0) := by
  obtain ⟨c, q, h1⟩ := FP.Core.l2d_shape (lN k)
  have h2 : decide ((lN k).toInt < 0) = false := decide_eq_false (by rw [lt_n h]; omega)
  rw [h2] at h1
  refine ⟨c, q, h1, fun hk hc => ?_⟩
  subst hc
  have h3 := (FP.Core.zero_bits2 (FP.l2d (lN k))).mp ⟨false, q, h1⟩
  have h4 := (FP.Core.l2d_big (v := lN k) (by rw [lt_n h]; omega)).1
  have h5 : (FP.Core.l2d (lN k)).toNat % 2 ^ 63 = 0 := h3
  omega
theorem pos_l2f {k : Nat} (h : k < 9223372036854775808) : pos32 (FP.l2f (lN k)) := by
  obtain ⟨c, q, h1, -⟩ := l2f_n h
  exact Or.inl ⟨c, q, h1⟩
theorem pos_div {a b : Nat} (ha : a < 9223372036854775808) (hb : b < 9223372036854775808) (h0 : 0 < b) : pos32 (FP.fdiv (FP.l2f (lN a)) (FP.l2f (lN b))) := by
  obtain ⟨c, q, h1, -⟩ := l2f_n ha
  obtain ⟨c2, q2, h2, h3⟩ := l2f_n hb
  rw [pos_e]
  show pd (FP.Core.val32 (FP.Core.fdiv _ _))
  rw [FP.Core.val32_fdiv]
  show pd (FP.Core.quotient _ (FP.Core.val32 (FP.l2f (lN a))) (FP.Core.val32 (FP.l2f (lN b))))
  rw [h1, h2]
  exact pd_div (Or.inl ⟨_, _, rfl⟩) (h3 h0)
theorem fcmp_0 {b : Nat} (hb : b < 9223372036854775808) : (Op.cmpValue (FP.fcmp (FP.l2f (lN b)) FP.fconst0) .l) ≤ 0 ↔ b = 0 := by
  by_cases h : b = 0
  · subst h
    exact ⟨fun _ => rfl, fun _ => by decide +kernel⟩
  · obtain ⟨c, q, h1, -⟩ := l2f_n hb
    have h3 := (FP.Core.l2f_big (v := lN b) (by rw [lt_n hb]; omega)).1
    have h4 : (FP.Core.l2f (lN b)).toNat < 2 ^ 31 := by
      have := FP.Core.sign_bits32 (a := FP.Core.l2f (lN b)) (s := false) (Or.inl ⟨c, q, h1⟩)
      rcases Nat.lt_or_ge (FP.Core.l2f (lN b)).toNat (2 ^ 31) with h | h
      · exact h
      · have := this.mpr h
        cases this
    have h5 : FP.Core.fcmp (FP.Core.l2f (lN b)) FP.fconst0 = some .gt := (FP.Core.mono_bits32 (pd_nn (Or.inl ⟨c, q, h1⟩)) (by decide +kernel) h4 (by decide +kernel)).2.2.mpr (by
      show 0 < (FP.Core.l2f (lN b)).toNat
      omega)
    have h6 : FP.fcmp (FP.l2f (lN b)) FP.fconst0 = some .gt := h5
    rw [h6]
    exact ⟨fun h9 => absurd h9 (by decide), fun h9 => absurd h9 h⟩
theorem i2d_n {k : Nat} (h : k < 2147483648) : FP.i2d (nI k) = FP.l2d (lN k) := by
  show FP.Core.i2d (nI k) = FP.Core.l2d (lN k)
  rw [FP.Core.i2d_l2d, nI_l h]
theorem pos_est {a b d : Nat} (ha : a < 9223372036854775808) (hb : b < 9223372036854775808) (hd : d < 9223372036854775808) (h0 : 0 < d) : pos64 (FP.dmul (FP.l2d (lN a)) (FP.l2d (lN b))) ∧ pos64 (FP.ddiv (FP.dmul (FP.l2d (lN a)) (FP.l2d (lN b))) (FP.l2d (lN d))) := by
  obtain ⟨c, q, h1, -⟩ := l2d_n ha
  obtain ⟨c2, q2, h2, -⟩ := l2d_n hb
  obtain ⟨c3, q3, h3, h4⟩ := l2d_n hd
  have hm : pos64 (FP.dmul (FP.l2d (lN a)) (FP.l2d (lN b))) := by
    show pd (FP.Core.val64 (FP.Core.dmul _ _))
    rw [FP.Core.val64_dmul]
    show pd (FP.Core.round _ (FP.Core.exactProduct (FP.Core.val64 (FP.l2d (lN a))) (FP.Core.val64 (FP.l2d (lN b)))))
    rw [h1, h2]
    exact pd_round pd_mulf
  refine ⟨hm, ?_⟩
  show pd (FP.Core.val64 (FP.Core.ddiv _ _))
  rw [FP.Core.val64_ddiv]
  show pd (FP.Core.quotient _ _ (FP.Core.val64 (FP.l2d (lN d))))
  rw [h3]
  exact pd_div hm (h4 h0)
theorem pos_rnd {x : UInt64} (h : pos64 x) : pos64 (FP.dadd x 4602678819172646912) := by
  show pd (FP.Core.val64 (FP.Core.dadd _ _))
  rw [FP.Core.val64_dadd, v_05]
  exact pd_round (pd_add h (Or.inl ⟨_, _, rfl⟩))
theorem pos_f2d {x : UInt32} (h : pos32 x) : pos64 (FP.f2d x) := by
  have h1 : FP.Core.fIsNaN x = false := (FP.Core.notNaN_iff32 x).mpr (pd_nn h)
  unfold FP.f2d
  rw [h1]
  show pd (FP.Core.val64 (FP.Core.f2d x))
  rw [FP.Core.val64_f2d]
  exact pd_round h
theorem dself {x : UInt64} (h : pos64 x) : (Op.cmpValue (FP.dcmp x x) .l) = 0 := by
  have h1 : FP.dcmp x x = some .eq := FP.Core.dcmp_self (pd_nn h)
  rw [h1]
  rfl
