/-! the depths: the class's verdict -/
def okD (O A B E H : Nat → Int32) (r i : Nat) : Prop := (∀ d, Rch O A B E H r i d → tkN (oN (O i)) ≤ d ∧ d ≤ 5) ∧ ∀ d1 d2, Rch O A B E H r i d1 → Rch O A B E H r i d2 → d1 = d2
def bcx (x : Int32) : Int32 := match f_Integer_bitCount x m0 with
  | some (a, _) => a
  | none => 0
theorem bc_e (x : Int32) (M : fm_M) : f_Integer_bitCount x M = some (bcx x, M) := rfl
theorem bw1 : ∀ t, t < 3 → ∀ v, v < 128 → ((nI v &&& ((1 <<< (nI t &&& 31)) - 1)) = 0 ↔ ∀ d, d < 7 → v.testBit d = true → t ≤ d) := by decide +kernel
theorem bw2 : ∀ v, v < 128 → ((nI v >>> (6 &&& 31)) = 0 ↔ ∀ d, d < 7 → v.testBit d = true → d ≤ 5) := by decide +kernel
theorem bw3 : ∀ v, v < 128 → (bcx (nI v) ≤ 1 ↔ ∀ d1, d1 < 7 → ∀ d2, d2 < 7 → v.testBit d1 = true → v.testBit d2 = true → d1 = d2) := by decide +kernel
theorem tk3 : ∀ o, o ≤ 16 → tkN o < 3 := by decide
section CV
variable {O A B E H : Nat → Int32} {l r p d c c1 c2 : Nat} {M M1 M2 : fm_M}
theorem c_irw {o v : Nat} (ho : o ≤ 15) (hv : v < 128) : (f_Checker_isReachedWrongly (nI o) (nI v) M = some (0, M) ∧ ((∀ d, d < 7 → v.testBit d = true → tkN o ≤ d ∧ d ≤ 5) ∧ ∀ d1, d1 < 7 → ∀ d2, d2 < 7 → v.testBit d1 = true → v.testBit d2 = true → d1 = d2)) ∨ (f_Checker_isReachedWrongly (nI o) (nI v) M = some (1, M) ∧ ¬ ((∀ d, d < 7 → v.testBit d = true → tkN o ≤ d ∧ d ≤ 5) ∧ ∀ d1, d1 < 7 → ∀ d2, d2 < 7 → v.testBit d1 = true → v.testBit d2 = true → d1 = d2)) := by
  have w1 := bw1 (tkN o) (tk3 o (by omega)) v hv
  have w2 := bw2 v hv
  have w3 := bw3 v hv
  unfold f_Checker_isReachedWrongly j_Checker_isReachedWrongly_19 j_Checker_isReachedWrongly_32 j_Checker_isReachedWrongly_49
  rw [tk_e o (by omega), ob_e]
  by_cases c1 : (nI v &&& ((1 <<< (nI (tkN o) &&& 31)) - 1)) = 0
  · rw [if_pos c1]
    by_cases c2 : (nI v >>> (6 &&& 31)) = 0
    · rw [if_pos c2, if_pos rfl, if_pos rfl, bc_e, bd_e]
      by_cases c3 : bcx (nI v) ≤ 1
      · rw [if_pos c3]
        exact Or.inl ⟨rfl, fun d h1 h2 => ⟨w1.mp c1 d h1 h2, w2.mp c2 d h1 h2⟩, w3.mp c3⟩
      · rw [if_neg c3]
        exact Or.inr ⟨rfl, fun h9 => c3 (w3.mpr h9.2)⟩
    · rw [if_neg c2, if_pos rfl, if_neg (by decide)]
      exact Or.inr ⟨rfl, fun h9 => c2 (w2.mpr (fun d h1 h2 => (h9.1 d h1 h2).2))⟩
  · rw [if_neg c1]
    refine Or.inr ⟨?_, fun h9 => c1 (w1.mpr (fun d h1 h2 => (h9.1 d h1 h2).1))⟩
    by_cases c2 : (nI v >>> (6 &&& 31)) = 0
    · rw [if_pos c2, if_neg (by decide)]
    · rw [if_neg c2, if_neg (by decide)]
theorem c_ver (hg : gd O A B E H l r) (hd : dr M O A B E H l r) (hb : ∀ p, p < 24 → ∃ v, v < 128 ∧ M.1 172 p = nI v) (hm : ∀ x, x < 168 → (mkC M x = true ↔ Rch O A B E H r (x / 7) (x % 7))) : ∀ (k i n : Nat), i + k = l → k < n → (∃ j, i ≤ j ∧ j < l ∧ ¬ okD O A B E H r j ∧ (∀ i', i ≤ i' → i' < j → okD O A B E H r i') ∧ h_Checker_wrongDepth_69 n 171 165 (nI i) M = some (nI j, M)) ∨ ((∀ i', i ≤ i' → i' < l → okD O A B E H r i') ∧ h_Checker_wrongDepth_69 n 171 165 (nI i) M = some (-1, M))
  | 0, i, n + 1, hi, _ => by
    have : i = l := by omega
    subst this
    have h24 := hg.2.1
    refine Or.inr ⟨fun i' a b => absurd b (by omega), ?_⟩
    rw [h_Checker_wrongDepth_69, gi_e cl_165, ob_e, hd.1, if_pos (nI_le (Nat.le_refl _) (by omega))]
  | k + 1, i, n + 1, hi, hn => by
    have h24 := hg.2.1
    have hil : i < l := by omega
    obtain ⟨o, o1, o2, -⟩ := hg.2.2.2.1 i hil
    obtain ⟨v, v1, v2⟩ := hb i (by omega)
    have ho : oN (O i) = o := by rw [o2, oN_n (by omega)]
    have hbit : ∀ d, d < 7 → (v.testBit d = true ↔ Rch O A B E H r i d) := by
      intro d hd7
      have := hm (7 * i + d) (by omega)
      unfold mkC at this
      rw [show (7 * i + d) / 7 = i by omega, show (7 * i + d) % 7 = d by omega, v2, oN_n (by omega)] at this
      exact this
    have hok : ((∀ d, d < 7 → v.testBit d = true → tkN o ≤ d ∧ d ≤ 5) ∧ ∀ d1, d1 < 7 → ∀ d2, d2 < 7 → v.testBit d1 = true → v.testBit d2 = true → d1 = d2) ↔ okD O A B E H r i := by
      unfold okD
      rw [ho]
      constructor
      · intro ⟨h1, h2⟩
        refine ⟨fun d hR => h1 d (by have := (Rch_b hg hR).2; omega) ((hbit d (by have := (Rch_b hg hR).2; omega)).mpr hR), fun d1 d2 hR1 hR2 => h2 d1 (by have := (Rch_b hg hR1).2; omega) d2 (by have := (Rch_b hg hR2).2; omega) ((hbit d1 (by have := (Rch_b hg hR1).2; omega)).mpr hR1) ((hbit d2 (by have := (Rch_b hg hR2).2; omega)).mpr hR2)⟩
      · intro ⟨h1, h2⟩
        exact ⟨fun d hd7 hb => h1 d ((hbit d hd7).mp hb), fun d1 a d2 b hb1 hb2 => h2 d1 d2 ((hbit d1 a).mp hb1) ((hbit d2 b).mp hb2)⟩
    have hop : f_Code_operationAt 165 (nI i) M = some (nI o, M) := by rw [e_op1 cd_d hd.1 (by decide) h24 hil, show M.1 (165 + 4) = O from hd.2.2.1, o2]
    rcases c_irw (M := M) o1 v1 with ⟨w1, w2⟩ | ⟨w1, w2⟩
    · rcases c_ver hg hd hb hm k (i + 1) n (by omega) (by omega) with ⟨j, j1, j2, j3, j4, j5⟩ | ⟨j1, j2⟩
      · refine Or.inl ⟨j, by omega, j2, j3, fun i' a b => ?_, ?_⟩
        · by_cases h9 : i' = i
          · rw [h9]; exact hok.mp w2
          · exact j4 i' (by omega) b
        · rw [h_Checker_wrongDepth_69, gi_e cl_165, ob_e, hd.1, if_neg (nI_ge hil (by omega)), ck_e cl_165, ob_e, hop, bd_e, gr_171_0, ob_e, ai_n an_172 (by omega) (by decide), ob_e, v2, w1, bd_e, if_pos rfl, nI_1]
          exact j5
      · refine Or.inr ⟨fun i' a b => ?_, ?_⟩
        · by_cases h9 : i' = i
          · rw [h9]; exact hok.mp w2
          · exact j1 i' (by omega) b
        · rw [h_Checker_wrongDepth_69, gi_e cl_165, ob_e, hd.1, if_neg (nI_ge hil (by omega)), ck_e cl_165, ob_e, hop, bd_e, gr_171_0, ob_e, ai_n an_172 (by omega) (by decide), ob_e, v2, w1, bd_e, if_pos rfl, nI_1]
          exact j2
    · refine Or.inl ⟨i, Nat.le_refl _, hil, fun h9 => w2 (hok.mpr h9), fun i' a b => absurd b (by omega), ?_⟩
      rw [h_Checker_wrongDepth_69, gi_e cl_165, ob_e, hd.1, if_neg (nI_ge hil (by omega)), ck_e cl_165, ob_e, hop, bd_e, gr_171_0, ob_e, ai_n an_172 (by omega) (by decide), ob_e, v2, w1, bd_e, if_neg (by decide)]
/-- the class's list is worked off -/
theorem c_wl (hg : gd O A B E H l r) : ∀ (k w n c : Nat) (M : fm_M), w + k = 168 → k < n → dr M O A B E H l r → CI M c → w ≤ c → (∀ x, x < 168 → mkC M x = true → Rch O A B E H r (x / 7) (x % 7)) → mkC M 0 = true → (∀ j, j < w → ∀ x, x < 168 → M.1 173 j = nI x → ∀ y, y < 168 → suc O A B E H r (x / 7) (x % 7) (y / 7) (y % 7) → mkC M y = true) → ∃ M', h_Checker_wrongDepth_21 n 171 165 (nI w) M = h_Checker_wrongDepth_69 100000 171 165 0 M' ∧ dr M' O A B E H l r ∧ (∀ p, p < 24 → ∃ v, v < 128 ∧ M'.1 172 p = nI v) ∧ (∀ x, x < 168 → (mkC M' x = true ↔ Rch O A B E H r (x / 7) (x % 7))) ∧ M'.2 = M.2 ∧ ∀ q, ¬ (q = 171 ∨ q = 172 ∨ q = 173) → M'.1 q = M.1 q
  | k, w, 0, c, M, _, hn, _, _, _, _, _, _ => absurd hn (Nat.not_lt_zero _)
  | k, w, n + 1, c, M, hw, hn, hd, hc, hwc, hs, h0, hcl => by
    have hcle := cnt_le (mkC M) 168
    have h24 := hg.2.1
    obtain ⟨i1, i2, i3, i4, i5⟩ := id hc
    by_cases hdone : c ≤ w
    · have hcw : c = w := by omega
      have closed : ∀ p d p' d', p < l → d ≤ 6 → mkC M (7 * p + d) = true → suc O A B E H r p d p' d' → mkC M (7 * p' + d') = true := by
        intro p d p' d' hp hd6 hm hsu
        obtain ⟨j, j1, j2⟩ := i4 (7 * p + d) (by omega) hm
        have hb := suc_b hg hp hsu
        refine hcl j (by omega) (7 * p + d) (by omega) j2 (7 * p' + d') (by omega) ?_
        rw [show (7 * p + d) / 7 = p by omega, show (7 * p + d) % 7 = d by omega, show (7 * p' + d') / 7 = p' by omega, show (7 * p' + d') % 7 = d' by omega]
        exact hsu
      have heq := Rch_eq hg (X := fun p d => mkC M (7 * p + d) = true) h0 (fun p d hp hd6 hm => by
        have := hs (7 * p + d) (by omega) hm
        rw [show (7 * p + d) / 7 = p by omega, show (7 * p + d) % 7 = d by omega] at this
        exact this) closed
      refine ⟨M, ?_, hd, i2, fun x hx => ⟨hs x hx, fun hR => ?_⟩, rfl, fun _ _ => rfl⟩
      · rw [h_Checker_wrongDepth_21, gr_171_1, ob_e, ln_e an_173 (by decide), ob_e]
        unfold j_Checker_wrongDepth_67
        by_cases h168 : 168 ≤ w
        · rw [if_pos (nI_le h168 (by omega))]
        · rw [if_neg (nI_ge (by omega) (by decide)), gi_e cl_171, ob_e, i1, if_pos (nI_le hdone (by omega))]
      · have hb := Rch_b hg hR
        have := (heq (x / 7) (x % 7) hb.1 hb.2).mpr hR
        rw [show 7 * (x / 7) + x % 7 = x by omega] at this
        exact this
    · have hw168 : w < 168 := by omega
      obtain ⟨x, x1, x2, x3⟩ := i3 w (by omega)
      have hR := hs x x1 x3
      have hb := Rch_b hg hR
      obtain ⟨M1, c1, g1, g2⟩ := c_follow hg hb.1 hb.2 hd hc
      obtain ⟨t1, t2, t3, t4, t5, t6⟩ := id g2
      obtain ⟨M', q1, q2, q3, q4, q5, q6⟩ := c_wl hg (k - 1) (w + 1) n c1 M1 (by omega) (by omega) (dr_k hd t6) t1 (by omega) (fun y hy hm => by
        rcases (t4 y hy).mp hm with h9 | h9
        · exact hs y hy h9
        · exact Rch_s hR h9) ((t4 0 (by decide)).mpr (Or.inl h0)) (fun j hj z hz hjz y hy hsu => by
        rw [t3 j (by omega)] at hjz
        by_cases hjw : j = w
        · subst hjw
          have : z = x := (nI_eq (by omega) (by omega)).mp (hjz.symm.trans x2)
          subst this
          exact (t4 y hy).mpr (Or.inr hsu)
        · exact (t4 y hy).mpr (Or.inl (hcl j (by omega) z hz hjz y hy hsu)))
      refine ⟨M', ?_, q2, q3, q4, q5.trans t5, fun q hq => (q6 q hq).trans (t6 q hq)⟩
      rw [h_Checker_wrongDepth_21, gr_171_1, ob_e, ln_e an_173 (by decide), ob_e, if_neg (nI_ge hw168 (by decide)), gi_e cl_171, ob_e, i1, if_neg (nI_ge (by omega) (by omega)), ob_e, ai_n an_173 hw168 (by decide), ob_e, ob_e, ai_n an_173 hw168 (by decide), ob_e, x2, ck_e cl_171, ob_e, show (7 : Int32) = nI 7 from rfl, pk_rem (by omega) (by decide) (by decide), pk_div (by omega) (by decide) (by decide), g1, ob_e, nI_1]
      exact q1
/-- the class's whole look at the depths -/
theorem c_depth (hg : gd O A B E H l r) (hd : dr M O A B E H l r) : ∃ M', ((∃ j, j < l ∧ ¬ okD O A B E H r j ∧ (∀ i, i < j → okD O A B E H r i) ∧ f_Checker_wrongDepth 171 165 M = some (nI j, M')) ∨ ((∀ i, i < l → okD O A B E H r i) ∧ f_Checker_wrongDepth 171 165 M = some (-1, M'))) ∧ M'.2 = M.2 ∧ ∀ q, ¬ (q = 171 ∨ q = 172 ∨ q = 173) → M'.1 q = M.1 q := by
  generalize hM0 : fm_sI (fillM M 172 24 0) 171 2 0 = M0
  have r2 : ∀ z, z < 24 → M0.1 172 z = nI 0 := fun z hz => by
    rw [← hM0, row_ne (by decide)]
    simp only [fillM]
    rw [if_pos ⟨trivial, hz⟩]
    rfl
  have r1 : M0.1 171 2 = nI 0 := by rw [← hM0, sI_r, if_pos ⟨rfl, rfl⟩]; rfl
  have r3 : ∀ q, ¬ (q = 171 ∨ q = 172) → M0.1 q = M.1 q := fun q hq => by
    rw [← hM0, row_ne (by omega)]
    funext z
    simp only [fillM]
    rw [if_neg (by omega)]
  have rm : ∀ x, x < 168 → mkC M0 x = false := fun x hx => by
    unfold mkC
    rw [r2 (x / 7) (by omega), oN_n (by decide)]
    exact Nat.zero_testBit _
  have hc0 : CI M0 0 := ⟨r1, fun p hp => ⟨0, by decide, r2 p hp⟩, fun j hj => absurd hj (Nat.not_lt_zero _), fun x hx hm => by rw [rm x hx] at hm; exact absurd hm (by decide), by
    rw [cnt_c (f := fun _ => false) 168 rm]
    decide +kernel⟩
  obtain ⟨M1, c1, g1, g2⟩ := c_reach (p := 0) (d := 0) hc0 (by decide) (by decide)
  obtain ⟨t1, t2, t3, t4, t5, t6⟩ := id g2
  have hd1 : dr M1 O A B E H l r := dr_k hd (fun q hq => by rw [t6 q hq, r3 q (by omega)])
  obtain ⟨M2, q1, q2, q3, q4, q5, q6⟩ := c_wl hg 168 0 100000 c1 M1 (by omega) (by omega) hd1 t1 (by omega) (fun x hx hm => by
    rcases (t4 x hx).mp hm with h9 | h9
    · rw [rm x hx] at h9; exact absurd h9 (by decide)
    · rw [show x = 0 by omega]; exact Rch_0) ((t4 0 (by decide)).mpr (Or.inr rfl)) (fun j hj => absurd hj (Nat.not_lt_zero _))
  have pre : f_Checker_wrongDepth 171 165 M = h_Checker_wrongDepth_69 100000 171 165 0 M2 := by
    unfold f_Checker_wrongDepth
    rw [gr_171_0, ob_e, e_fill an_172 (by decide) (by decide), ob_e, pi_e cl_171, ob_e, ck_e cl_171, ob_e, hM0, show f_Checker_reach 171 0 0 M0 = some M1 from g1, ob_e]
    exact q1
  refine ⟨M2, ?_, by rw [q5, t5, ← hM0]; rfl, fun q hq => by rw [q6 q hq, t6 q hq, r3 q (by omega)]⟩
  rw [pre]
  rcases c_ver hg q2 q3 q4 l 0 100000 (by omega) (by have := hg.2.1; omega) with ⟨j, j1, j2, j3, j4, j5⟩ | ⟨j1, j2⟩
  · exact Or.inl ⟨j, j2, j3, fun i hi => j4 i (by omega) hi, j5⟩
  · exact Or.inr ⟨fun i hi => j1 i (by omega) hi, j2⟩
end CV
