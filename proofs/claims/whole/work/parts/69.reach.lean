/-! the depths: what is reached; the class's way -/
def gd (O A B E H : Nat → Int32) (l r : Nat) : Prop := 0 < l ∧ l ≤ 24 ∧ r ≤ 2 ∧ (∀ i, i < l → ∃ o, o ≤ 15 ∧ O i = nI o ∧ (o = 8 ∨ o = 9 ∨ o = 10 → ∃ x, x < l ∧ A i = nI x)) ∧ (∃ o, (o = 8 ∨ o = 14 ∨ o = 15) ∧ O (l - 1) = nI o) ∧ ∀ j, j < r → ∃ b e h, B j = nI b ∧ E j = nI e ∧ H j = nI h ∧ b < e ∧ e ≤ l ∧ h < l
def dn (O : Nat → Int32) (p d : Nat) : Nat := d - tkN (oN (O p)) + ptN (oN (O p))
def suc (O A B E H : Nat → Int32) (r p d p' d' : Nat) : Prop := d ≤ 5 ∧ tkN (oN (O p)) ≤ d ∧ ((¬ (oN (O p) = 8 ∨ oN (O p) = 14 ∨ oN (O p) = 15) ∧ p' = p + 1 ∧ d' = dn O p d) ∨ ((oN (O p) = 8 ∨ oN (O p) = 9 ∨ oN (O p) = 10) ∧ p' = oN (A p) ∧ d' = dn O p d) ∨ ∃ j, j < r ∧ oN (B j) ≤ p ∧ p < oN (E j) ∧ p' = oN (H j) ∧ d' = 1)
def Rch (O A B E H : Nat → Int32) (r p d : Nat) : Prop := ∀ Q : Nat → Nat → Prop, Q 0 0 → (∀ p d p' d', Q p d → suc O A B E H r p d p' d' → Q p' d') → Q p d
def cnt (f : Nat → Bool) : Nat → Nat
  | 0 => 0
  | n + 1 => cnt f n + if f n then 1 else 0
theorem cnt_le (f : Nat → Bool) : ∀ n, cnt f n ≤ n
  | 0 => Nat.le_refl _
  | n + 1 => by
    have := cnt_le f n
    rw [cnt]
    split <;> omega
theorem cnt_full (f : Nat → Bool) : ∀ n, cnt f n = n → ∀ x, x < n → f x = true
  | 0, _, x, hx => absurd hx (Nat.not_lt_zero _)
  | n + 1, h, x, hx => by
    have h1 := cnt_le f n
    rw [cnt] at h
    by_cases hn : f n = true
    · rw [if_pos hn] at h
      by_cases hxn : x = n
      · rw [hxn]; exact hn
      · exact cnt_full f n (by omega) x (by omega)
    · rw [if_neg hn] at h
      omega
theorem cnt_c {f g : Nat → Bool} : ∀ n, (∀ y, y < n → g y = f y) → cnt g n = cnt f n
  | 0, _ => rfl
  | n + 1, h => by rw [cnt, cnt, h n (by omega), cnt_c n (fun y hy => h y (by omega))]
theorem cnt_up {f g : Nat → Bool} {x : Nat} (hx : f x = false) (h : ∀ y, g y = (f y || decide (y = x))) : ∀ n, x < n → cnt g n = cnt f n + 1
  | 0, h0 => absurd h0 (Nat.not_lt_zero _)
  | n + 1, h0 => by
    rw [cnt, cnt]
    by_cases hn : x = n
    · rw [cnt_c (f := f) (g := g) n (fun y hy => by rw [h, decide_eq_false (by omega), Bool.or_false]), h n, ← hn, hx]
      simp
    · rw [cnt_up hx h n (by omega), h n, decide_eq_false (by omega), Bool.or_false]
      omega
section RCH
variable {O A B E H : Nat → Int32} {l r p d p' d' : Nat}
theorem Rch_0 : Rch O A B E H r 0 0 := fun _ h0 _ => h0
theorem Rch_s (h : Rch O A B E H r p d) (hs : suc O A B E H r p d p' d') : Rch O A B E H r p' d' := fun Q h0 h1 => h1 p d p' d' (h Q h0 h1) hs
theorem pt_le : ∀ o, o ≤ 16 → ptN o ≤ tkN o + 1 := by decide
theorem suc_b (hg : gd O A B E H l r) (hp : p < l) (hs : suc O A B E H r p d p' d') : p' < l ∧ d' ≤ 6 := by
  obtain ⟨g0, g1, g2, g3, ⟨oe, g4, g5⟩, g6⟩ := hg
  obtain ⟨s1, s2, s3⟩ := hs
  obtain ⟨o, o1, o2, o3⟩ := g3 p hp
  have hpt := pt_le o (by omega)
  have ho : oN (O p) = o := by rw [o2, oN_n (by omega)]
  unfold dn at s3
  rw [ho] at s2 s3
  rcases s3 with ⟨a1, a2, a3⟩ | ⟨a1, a2, a3⟩ | ⟨j, a1, a2, a3, a4, a5⟩
  · refine ⟨?_, by omega⟩
    by_cases hl : p = l - 1
    · subst hl
      have : o = oe := (nI_eq (by omega) (by omega)).mp (o2.symm.trans g5)
      omega
    · omega
  · obtain ⟨x, x1, x2⟩ := o3 a1
    rw [x2, oN_n (by omega)] at a2
    exact ⟨by omega, by omega⟩
  · obtain ⟨b, e, h, b1, b2, b3, b4, b5, b6⟩ := g6 j a1
    rw [b3, oN_n (by omega)] at a4
    exact ⟨by omega, by omega⟩
theorem Rch_b (hg : gd O A B E H l r) (h : Rch O A B E H r p d) : p < l ∧ d ≤ 6 := h (fun p d => p < l ∧ d ≤ 6) ⟨hg.1, by decide⟩ (fun _ _ _ _ hq hs => suc_b hg hq.1 hs)
/-- a set that is sound, holds the start and is closed, is what is reached -/
theorem Rch_eq (hg : gd O A B E H l r) {X : Nat → Nat → Prop} (h0 : X 0 0) (hs : ∀ p d, p < l → d ≤ 6 → X p d → Rch O A B E H r p d) (hc : ∀ p d p' d', p < l → d ≤ 6 → X p d → suc O A B E H r p d p' d' → X p' d') : ∀ p d, p < l → d ≤ 6 → (X p d ↔ Rch O A B E H r p d) := by
  intro p d hp hd
  refine ⟨hs p d hp hd, fun h => ?_⟩
  have := h (fun p d => p < l ∧ d ≤ 6 ∧ X p d) ⟨hg.1, by decide, h0⟩ (fun a b a' b' hq hsu => ⟨(suc_b hg hq.1 hsu).1, (suc_b hg hq.1 hsu).2, hc a b a' b' hq.1 hq.2.1 hq.2.2 hsu⟩)
  exact this.2.2
end RCH
def mkC (M : fm_M) (x : Nat) : Bool := (oN (M.1 172 (x / 7))).testBit (x % 7)
def CI (M : fm_M) (c : Nat) : Prop := M.1 171 2 = nI c ∧ (∀ p, p < 24 → ∃ v, v < 128 ∧ M.1 172 p = nI v) ∧ (∀ j, j < c → ∃ x, x < 168 ∧ M.1 173 j = nI x ∧ mkC M x = true) ∧ (∀ x, x < 168 → mkC M x = true → ∃ j, j < c ∧ M.1 173 j = nI x) ∧ c = cnt (mkC M) 168
def Tr (M : fm_M) (c : Nat) (M' : fm_M) (c' : Nat) (S : Nat → Prop) : Prop := CI M' c' ∧ c ≤ c' ∧ (∀ j, j < c → M'.1 173 j = M.1 173 j) ∧ (∀ y, y < 168 → (mkC M' y = true ↔ mkC M y = true ∨ S y)) ∧ M'.2 = M.2 ∧ ∀ q, ¬ (q = 171 ∨ q = 172 ∨ q = 173) → M'.1 q = M.1 q
theorem bt0 : ∀ v, v < 128 → ∀ d, d < 7 → ((nI v &&& (1 <<< (nI d &&& 31))) = 0 ↔ v.testBit d = false) ∧ nI v ||| (1 <<< (nI d &&& 31)) = nI (v ||| 2 ^ d) ∧ v ||| 2 ^ d < 128 := by decide +kernel
theorem bt1 : ∀ v, v < 128 → ∀ d, d < 7 → ∀ e, e < 7 → (v ||| 2 ^ d).testBit e = (v.testBit e || decide (e = d)) := by decide +kernel
section CR1
variable {O A B E H : Nat → Int32} {l r p d c c1 c2 : Nat} {M M1 M2 : fm_M} {S S1 S2 : Nat → Prop}
theorem Tr_r (h : CI M c) : Tr M c M c (fun _ => False) := ⟨h, Nat.le_refl _, fun _ _ => rfl, fun _ _ => ⟨Or.inl, fun h => h.elim id False.elim⟩, rfl, fun _ _ => rfl⟩
theorem Tr_t (h1 : Tr M c M1 c1 S1) (h2 : Tr M1 c1 M2 c2 S2) : Tr M c M2 c2 (fun y => S1 y ∨ S2 y) := by
  obtain ⟨a1, a2, a3, a4, a5, a6⟩ := h1
  obtain ⟨b1, b2, b3, b4, b5, b6⟩ := h2
  refine ⟨b1, by omega, fun j hj => (b3 j (by omega)).trans (a3 j hj), fun y hy => ?_, b5.trans a5, fun q hq => (b6 q hq).trans (a6 q hq)⟩
  rw [b4 y hy, a4 y hy, or_assoc]
theorem Tr_e (h : Tr M c M1 c1 S1) (hs : ∀ y, y < 168 → (S1 y ↔ S2 y)) : Tr M c M1 c1 S2 := by
  obtain ⟨a1, a2, a3, a4, a5, a6⟩ := h
  exact ⟨a1, a2, a3, fun y hy => by rw [a4 y hy, hs y hy], a5, a6⟩
theorem c_reach (h : CI M c) (hp : p < 24) (hd : d < 7) : ∃ M' c', f_Checker_reach 171 (nI p) (nI d) M = some M' ∧ Tr M c M' c' (fun y => y = 7 * p + d) := by
  obtain ⟨i1, i2, i3, i4, i5⟩ := id h
  obtain ⟨v, v1, v2⟩ := i2 p hp
  obtain ⟨t1, t2, t3⟩ := bt0 v v1 d hd
  have hcle := cnt_le (mkC M) 168
  have hmx : mkC M (7 * p + d) = v.testBit d := by
    unfold mkC
    rw [show (7 * p + d) / 7 = p by omega, show (7 * p + d) % 7 = d by omega, v2, oN_n (by omega)]
  have pre : f_Checker_reach 171 (nI p) (nI d) M = if nI c < nI 168 then if (nI v &&& (1 <<< (nI d &&& 31))) = 0 then (si 172 (nI p) (nI v ||| (1 <<< (nI d &&& 31))) M).bind fun M123 => (gi 171 0 2 M123).bind fun x127 => (si 173 x127 ((nI p * 7) + nI d) M123).bind fun M129 => (gi 171 0 2 M129).bind fun x131 => (pi 171 0 2 (x131 + 1) M129).bind fun M133 => some M133 else some M else some M := by
    unfold f_Checker_reach
    rw [if_neg (nI_pos (by omega)), gr_171_0, ob_e, ln_e an_172 (by decide), ob_e, if_neg (nI_ge hp (by decide)), gi_e cl_171, ob_e, i1, gr_171_1, ob_e, ln_e an_173 (by decide), ob_e, ob_e, ai_n an_172 hp (by decide), ob_e, v2, ob_e, ai_n an_172 hp (by decide), ob_e, v2]
    rfl
  have same : mkC M (7 * p + d) = true → Tr M c M c (fun y => y = 7 * p + d) := fun hm => ⟨h, Nat.le_refl _, fun _ _ => rfl, fun y _ => ⟨Or.inl, fun h9 => h9.elim id (fun h8 => by rw [h8]; exact hm)⟩, rfl, fun _ _ => rfl⟩
  by_cases hc : c < 168
  · rw [pre, if_pos (nI_lt hc (by decide))]
    by_cases hb : v.testBit d = false
    · rw [if_pos (t1.mpr hb), t2]
      generalize hM3 : fm_sI (fm_sI (fm_sI M 172 p (nI (v ||| 2 ^ d))) 173 c (nI (7 * p + d))) 171 2 (nI (c + 1)) = M3
      have r2 : ∀ z, M3.1 172 z = if z = p then nI (v ||| 2 ^ d) else M.1 172 z := fun z => by
        rw [← hM3, row_ne (by decide), row_ne (by decide), sI_r]
        simp
      have r3 : ∀ z, M3.1 173 z = if z = c then nI (7 * p + d) else M.1 173 z := fun z => by
        rw [← hM3, row_ne (by decide), sI_r]
        by_cases hz : z = c
        · rw [if_pos ⟨rfl, hz⟩, if_pos hz]
        · rw [if_neg (fun h => hz h.2), if_neg hz, row_ne (by decide)]
      have r1 : M3.1 171 2 = nI (c + 1) := by rw [← hM3, sI_r, if_pos ⟨rfl, rfl⟩]
      have rm : ∀ y, y < 168 → mkC M3 y = (mkC M y || decide (y = 7 * p + d)) := by
        intro y hy
        unfold mkC
        rw [r2]
        by_cases hyp : y / 7 = p
        · rw [if_pos hyp, oN_n (by omega), hyp, v2, oN_n (by omega), bt1 v v1 d hd (y % 7) (by omega)]
          congr 1
          exact decide_eq_decide.mpr (by omega)
        · rw [if_neg hyp, decide_eq_false (show ¬ y = 7 * p + d by omega), Bool.or_false]
      have rmx : mkC M3 (7 * p + d) = true := by rw [rm _ (by omega)]; simp
      refine ⟨M3, c + 1, ?_, ⟨r1, fun z hz => ?_, fun j hj => ?_, fun x hx hm => ?_, ?_⟩, by omega, fun j hj => by rw [r3, if_neg (by omega)], fun y hy => ?_, by rw [← hM3]; rfl, fun q hq => by rw [← hM3, row_ne (by omega), row_ne (by omega), row_ne (by omega)]⟩
      · have e1 : ∀ a b, (fm_sI M 172 a b).1 171 2 = nI c := fun a b => by rw [row_ne (by decide)]; exact i1
        have e2 : ∀ a b a' b', (fm_sI (fm_sI M 172 a b) 173 a' b').1 171 2 = nI c := fun a b a' b' => by rw [row_ne (by decide)]; exact e1 _ _
        rw [si_n an_172 hp (by decide), ob_e, gi_e cl_171, ob_e, e1, show nI p * 7 = nI (p * 7) from nI_mul p 7, nI_add, show p * 7 + d = 7 * p + d by omega, si_n an_173 hc (by decide), ob_e, gi_e cl_171, ob_e, e2, nI_1, pi_e cl_171, ob_e, hM3]
      · rw [r2]
        by_cases hz2 : z = p
        · rw [if_pos hz2]; exact ⟨_, t3, rfl⟩
        · rw [if_neg hz2]; exact i2 z hz
      · rw [r3]
        by_cases hj2 : j = c
        · rw [if_pos hj2]; exact ⟨7 * p + d, by omega, rfl, rmx⟩
        · rw [if_neg hj2]
          obtain ⟨x, x1, x2, x3⟩ := i3 j (by omega)
          exact ⟨x, x1, x2, by rw [rm x x1, x3]; rfl⟩
      · rw [rm x hx] at hm
        by_cases hx2 : x = 7 * p + d
        · exact ⟨c, by omega, by rw [r3, if_pos rfl, hx2]⟩
        · rw [decide_eq_false hx2, Bool.or_false] at hm
          obtain ⟨j, j1, j2⟩ := i4 x hx hm
          exact ⟨j, by omega, by rw [r3, if_neg (by omega)]; exact j2⟩
      · have hf : mkC M (7 * p + d) = false := hmx.trans hb
        rw [cnt_c (f := fun y => mkC M y || decide (y = 7 * p + d)) 168 rm, cnt_up (f := mkC M) hf (fun y => rfl) 168 (by omega), ← i5]
      · rw [rm y hy]
        simp
    · have hb' : v.testBit d = true := by simpa using hb
      rw [if_neg (fun h9 => hb (t1.mp h9))]
      exact ⟨M, c, rfl, same (hmx.trans hb')⟩
  · rw [pre, if_neg (nI_nlt (by omega) (by omega))]
    exact ⟨M, c, rfl, same (cnt_full (mkC M) 168 (by omega) (7 * p + d) (by omega))⟩
/-- the rows that the check reads -/
def dr (M : fm_M) (O A B E H : Nat → Int32) (l r : Nat) : Prop := M.1 165 5 = nI l ∧ M.1 165 6 = nI r ∧ M.1 169 = O ∧ M.1 170 = A ∧ M.1 166 = B ∧ M.1 167 = E ∧ M.1 168 = H
theorem dr_k (h : dr M O A B E H l r) (hk : ∀ q, ¬ (q = 171 ∨ q = 172 ∨ q = 173) → M1.1 q = M.1 q) : dr M1 O A B E H l r := by
  unfold dr at h ⊢
  rw [hk 165 (by omega), hk 166 (by omega), hk 167 (by omega), hk 168 (by omega), hk 169 (by omega), hk 170 (by omega)]
  exact h
theorem c_rng (hg : gd O A B E H l r) (hp : p < l) : ∀ (k j n c : Nat) (M : fm_M), j + k = r → k < n → dr M O A B E H l r → CI M c → ∃ M' c', h_Checker_follow_79 n 171 165 (nI p) (nI j) M = some M' ∧ Tr M c M' c' (fun y => ∃ j', j ≤ j' ∧ j' < r ∧ oN (B j') ≤ p ∧ p < oN (E j') ∧ y = 7 * oN (H j') + 1)
  | 0, j, n + 1, c, M, hj, _, hd, hc => by
    have : j = r := by omega
    subst this
    have hr2 := hg.2.2.1
    refine ⟨M, c, ?_, Tr_e (Tr_r hc) (fun y _ => ⟨False.elim, fun ⟨j', a, b, _⟩ => absurd b (by omega)⟩)⟩
    rw [h_Checker_follow_79, gi_e cl_165, ob_e, hd.2.1, if_pos (nI_le (Nat.le_refl _) (by omega))]
  | k + 1, j, n + 1, c, M, hj, hn, hd, hc => by
    have hr2 := hg.2.2.1
    have hl24 := hg.2.1
    obtain ⟨b, e, h, b1, b2, b3, b4, b5, b6⟩ := hg.2.2.2.2.2 j (by omega)
    have hB : oN (B j) = b := by rw [b1, oN_n (by omega)]
    have hE : oN (E j) = e := by rw [b2, oN_n (by omega)]
    have hH : oN (H j) = h := by rw [b3, oN_n (by omega)]
    have hcov : f_Code_covers 165 (nI j) (nI p) M = some (if b ≤ p ∧ p < e then 1 else 0, M) := by
      rw [e_cov cd_d hd.2.1 hr2 (by omega), show M.1 (165 + 1) = B from hd.2.2.2.2.1, show M.1 (165 + 2) = E from hd.2.2.2.2.2.1, b1, b2]
      by_cases hc : b ≤ p ∧ p < e
      · rw [if_pos hc, if_pos ⟨nI_le hc.1 (by omega), nI_lt hc.2 (by omega)⟩]
      · rw [if_neg hc, if_neg (fun h9 => hc ⟨(nI_leI (by omega) (by omega)).mp h9.1, (nI_ltI (by omega) (by omega)).mp h9.2⟩)]
    by_cases hcv : b ≤ p ∧ p < e
    · obtain ⟨M1, c1, g1, g2⟩ := c_reach (p := h) (d := 1) hc (by omega) (by decide)
      obtain ⟨M2, c2, g3, g4⟩ := c_rng hg hp k (j + 1) n c1 M1 (by omega) (by omega) (dr_k hd g2.2.2.2.2.2) g2.1
      refine ⟨M2, c2, ?_, Tr_e (Tr_t g2 g4) (fun y hy => ⟨fun h9 => ?_, fun ⟨j', a, b', c', d', e'⟩ => ?_⟩)⟩
      · rw [h_Checker_follow_79, gi_e cl_165, ob_e, hd.2.1, if_neg (nI_ge (by omega) (by omega)), ck_e cl_165, ob_e, hcov, if_pos hcv, bd_e, if_neg (by decide), gr_165_4, ob_e, ai_n an_168 (by omega) (by decide), ob_e, hd.2.2.2.2.2.2, b3, ck_e cl_171, ob_e, show (1 : Int32) = nI 1 from rfl, g1, ob_e]
        unfold j_Checker_follow_110
        rw [nI_1]
        exact g3
      · rcases h9 with h9 | ⟨j', a, b', c', d', e'⟩
        · exact ⟨j, Nat.le_refl _, by omega, by omega, by omega, by omega⟩
        · exact ⟨j', by omega, b', c', d', e'⟩
      · by_cases hjj : j' = j
        · subst hjj
          exact Or.inl (by omega)
        · exact Or.inr ⟨j', by omega, b', c', d', e'⟩
    · obtain ⟨M2, c2, g3, g4⟩ := c_rng hg hp k (j + 1) n c M (by omega) (by omega) hd hc
      refine ⟨M2, c2, ?_, Tr_e g4 (fun y hy => ⟨fun ⟨j', a, b', c', d', e'⟩ => ⟨j', by omega, b', c', d', e'⟩, fun ⟨j', a, b', c', d', e'⟩ => ?_⟩)⟩
      · rw [h_Checker_follow_79, gi_e cl_165, ob_e, hd.2.1, if_neg (nI_ge (by omega) (by omega)), ck_e cl_165, ob_e, hcov, if_neg hcv, bd_e, if_pos rfl]
        unfold j_Checker_follow_110
        rw [nI_1]
        exact g3
      · by_cases hjj : j' = j
        · subst hjj
          exact absurd ⟨by omega, by omega⟩ hcv
        · exact ⟨j', by omega, b', c', d', e'⟩
theorem tk_e : ∀ o, o ≤ 16 → tk (nI o) = some (nI (tkN o)) := by decide +kernel
theorem pt_e : ∀ o, o ≤ 16 → pt (nI o) = some (nI (ptN o)) := by decide +kernel
theorem c_follow (hg : gd O A B E H l r) (hp : p < l) (hd6 : d ≤ 6) (hd : dr M O A B E H l r) (hc : CI M c) : ∃ M' c', f_Checker_follow 171 165 (nI p) (nI d) M = some M' ∧ Tr M c M' c' (fun y => suc O A B E H r p d (y / 7) (y % 7)) := by
  obtain ⟨g0, g1, g2, g3, -, -⟩ := id hg
  obtain ⟨o, o1, o2, o3⟩ := g3 p hp
  have ho : oN (O p) = o := by rw [o2, oN_n (by omega)]
  have hop : f_Code_operationAt 165 (nI p) M = some (nI o, M) := by rw [e_op1 cd_d hd.1 (by decide) g1 hp, show M.1 (165 + 4) = O from hd.2.2.1, o2]
  have hstop : ¬ (d ≤ 5 ∧ tkN o ≤ d) → Tr M c M c (fun y => suc O A B E H r p d (y / 7) (y % 7)) := fun h9 => Tr_e (Tr_r hc) (fun y _ => ⟨False.elim, fun ⟨a, b, _⟩ => h9 ⟨a, by rw [ho] at b; exact b⟩⟩)
  unfold f_Checker_follow
  rw [ck_e cl_165, ob_e, hop, bd_e]
  by_cases h5 : d ≤ 5
  · rw [if_neg (show ¬ 5 < nI d from nI_nlt (a := 5) h5 (by decide)), tk_e o (by omega), ob_e]
    by_cases htk : tkN o ≤ d
    · have hpt := pt_le o (by omega)
      have hdn : dn O p d = d - tkN o + ptN o := by unfold dn; rw [ho]
      have hdn7 : dn O p d < 7 := by omega
      rw [if_pos (nI_le htk (by omega)), ob_e, pt_e o (by omega), ob_e, e_cls (by omega), bd_e, nI_sub htk, nI_add, ← hdn]
      have tail : ∀ (M1 : fm_M) (c1 : Nat), dr M1 O A B E H l r → CI M1 c1 → ∃ M' c', j_Checker_follow_57 171 165 (nI p) (nI o) (nI (dn O p d)) M1 = some M' ∧ Tr M1 c1 M' c' (fun y => ((oN (O p) = 8 ∨ oN (O p) = 9 ∨ oN (O p) = 10) ∧ y / 7 = oN (A p) ∧ y % 7 = dn O p d) ∨ ∃ j, j < r ∧ oN (B j) ≤ p ∧ p < oN (E j) ∧ y / 7 = oN (H j) ∧ y % 7 = 1) := by
        intro M1 c1 hd1 hc1
        unfold j_Checker_follow_57 j_Checker_follow_76
        rw [e_brn (by omega), bd_e]
        by_cases hb : o = 8 ∨ o = 9 ∨ o = 10
        · obtain ⟨x, x1, x2⟩ := o3 hb
          obtain ⟨M2, c2, q1, q2⟩ := c_reach (p := x) hc1 (by omega) hdn7
          obtain ⟨M3, c3, q3, q4⟩ := c_rng hg hp r 0 100000 c2 M2 (by omega) (by omega) (dr_k hd1 q2.2.2.2.2.2) q2.1
          refine ⟨M3, c3, ?_, Tr_e (Tr_t q2 q4) (fun y hy => ⟨fun h9 => ?_, fun h9 => ?_⟩)⟩
          · rw [if_pos hb, if_neg (by decide), ck_e cl_165, ob_e, e_ar1 cd_d hd1.1 (by decide) g1 hp, bd_e, show M1.1 (165 + 5) = A from hd1.2.2.2.1, x2, ck_e cl_171, ob_e, q1, ob_e]
            exact q3
          · rcases h9 with h9 | ⟨j', a, b', c', d', e'⟩
            · exact Or.inl ⟨by rw [ho]; exact hb, by rw [x2, oN_n (by omega)]; omega, by omega⟩
            · exact Or.inr ⟨j', b', c', d', by omega, by omega⟩
          · rcases h9 with ⟨a1, a2, a3⟩ | ⟨j', b', c', d', e1, e2⟩
            · rw [x2, oN_n (by omega)] at a2
              exact Or.inl (by omega)
            · exact Or.inr ⟨j', by omega, b', c', d', by omega⟩
        · obtain ⟨M3, c3, q3, q4⟩ := c_rng hg hp r 0 100000 c1 M1 (by omega) (by omega) hd1 hc1
          refine ⟨M3, c3, ?_, Tr_e q4 (fun y hy => ⟨fun ⟨j', a, b', c', d', e'⟩ => Or.inr ⟨j', b', c', d', by omega, by omega⟩, fun h9 => ?_⟩)⟩
          · rw [if_neg hb, if_pos rfl]
            exact q3
          · rcases h9 with ⟨a1, a2, a3⟩ | ⟨j', b', c', d', e1, e2⟩
            · rw [ho] at a1
              exact absurd a1 hb
            · exact ⟨j', by omega, b', c', d', by omega⟩
      have fin : ∀ y, suc O A B E H r p d (y / 7) (y % 7) ↔ ((¬ (oN (O p) = 8 ∨ oN (O p) = 14 ∨ oN (O p) = 15) ∧ y / 7 = p + 1 ∧ y % 7 = dn O p d) ∨ ((oN (O p) = 8 ∨ oN (O p) = 9 ∨ oN (O p) = 10) ∧ y / 7 = oN (A p) ∧ y % 7 = dn O p d) ∨ ∃ j, j < r ∧ oN (B j) ≤ p ∧ p < oN (E j) ∧ y / 7 = oN (H j) ∧ y % 7 = 1) := fun y => ⟨fun h9 => h9.2.2, fun h9 => ⟨h5, by rw [ho]; exact htk, h9⟩⟩
      by_cases hcl : o = 8 ∨ o = 14 ∨ o = 15
      · obtain ⟨M3, c3, q3, q4⟩ := tail M c hd hc
        refine ⟨M3, c3, ?_, Tr_e q4 (fun y hy => ?_)⟩
        · rw [if_pos hcl, if_neg (by decide)]
          exact q3
        · rw [fin]
          refine ⟨Or.inr, fun h9 => h9.elim (fun h8 => absurd (by rw [ho]; exact hcl) h8.1) id⟩
      · have hsb := (suc_b (p' := p + 1) (d' := dn O p d) hg hp ⟨h5, by rw [ho]; exact htk, Or.inl ⟨by rw [ho]; exact hcl, rfl, rfl⟩⟩).1
        obtain ⟨M1, c1, q1, q2⟩ := c_reach (p := p + 1) hc (by omega) hdn7
        obtain ⟨M3, c3, q3, q4⟩ := tail M1 c1 (dr_k hd q2.2.2.2.2.2) q2.1
        refine ⟨M3, c3, ?_, Tr_e (Tr_t q2 q4) (fun y hy => ?_)⟩
        · rw [if_neg hcl, if_pos rfl, ck_e cl_171, ob_e, nI_1, q1, ob_e]
          exact q3
        · rw [fin]
          refine ⟨fun h9 => ?_, fun h9 => ?_⟩
          · rcases h9 with h9 | h9
            · exact Or.inl ⟨by rw [ho]; exact hcl, by omega, by omega⟩
            · exact Or.inr h9
          · rcases h9 with ⟨-, a, b⟩ | h9
            · exact Or.inl (by omega)
            · exact Or.inr h9
    · rw [if_neg (fun h9 => htk ((nI_leI (by have := (show ∀ o, o ≤ 16 → tkN o < 1000 by decide) o (by omega); omega) (by omega)).mp h9))]
      exact ⟨M, c, rfl, hstop (fun h9 => htk h9.2)⟩
  · rw [if_pos (show 5 < nI d from nI_lt (a := 5) (by omega) (by omega))]
    exact ⟨M, c, rfl, hstop (fun h9 => h5 h9.1)⟩
end CR1
