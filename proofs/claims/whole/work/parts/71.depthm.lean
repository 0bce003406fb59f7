/-! the depths: the reference's way -/
def mkM (N : fm_M) (y : Nat) : Prop := N.1 191 y = 1
def bM (N : fm_M) (y : Nat) : Bool := decide (N.1 191 y = 1)
theorem bM_t {N : fm_M} {y : Nat} (h : bM N y = true) : mkM N y := of_decide_eq_true (p := N.1 191 y = 1) h
def MI (N : fm_M) : Prop := ∀ y, y < 250 → N.1 191 y = 0 ∨ N.1 191 y = 1
def cM (N : fm_M) : Nat := cnt (bM N) 250
def MT (N N' : fm_M) (S : Nat → Prop) (a b : Int32) : Prop := MI N' ∧ (∀ y, y < 250 → (mkM N' y ↔ mkM N y ∨ S y)) ∧ N'.2 = N.2 ∧ (∀ q, q ≠ 191 → N'.1 q = N.1 q) ∧ (b = 0 ∨ b = 1) ∧ (b = 0 → a = 0 ∧ ∀ y, y < 250 → N'.1 191 y = N.1 191 y) ∧ (b = 1 → a = 1 ∨ cM N < cM N') ∧ cM N ≤ cM N'
theorem cnt_pos {f : Nat → Bool} : ∀ n x, x < n → f x = true → 1 ≤ cnt f n
  | 0, x, h, _ => absurd h (Nat.not_lt_zero _)
  | n + 1, x, h, hx => by
    rw [cnt]
    by_cases hn : x = n
    · rw [← hn, hx]; simp
    · have := cnt_pos n x (by omega) hx
      omega
theorem cnt_two {f : Nat → Bool} : ∀ n x y, x < y → y < n → f x = true → f y = true → 2 ≤ cnt f n
  | 0, x, y, _, h, _, _ => absurd h (Nat.not_lt_zero _)
  | n + 1, x, y, hxy, h, hx, hy => by
    rw [cnt]
    by_cases hn : y = n
    · have := cnt_pos (f := f) n x (by omega) hx
      rw [← hn, hy]
      rw [← hn] at this
      simp
      omega
    · have := cnt_two n x y hxy (by omega) hx hy
      omega
theorem cnt_none {f : Nat → Bool} : ∀ n, (∀ x, x < n → f x = false) → cnt f n = 0
  | 0, _ => rfl
  | n + 1, h => by rw [cnt, cnt_none n (fun x hx => h x (by omega)), h n (by omega)]; rfl
theorem cnt_one {f : Nat → Bool} : ∀ n, (∀ x y, x < n → y < n → f x = true → f y = true → x = y) → cnt f n ≤ 1
  | 0, _ => Nat.zero_le 1
  | n + 1, h => by
    rw [cnt]
    by_cases hn : f n = true
    · rw [cnt_none n (fun x hx => by
        cases hfx : f x with
        | false => rfl
        | true => have := h x n (by omega) (by omega) hfx hn; omega), if_pos hn]
      omega
    · rw [if_neg hn]
      exact cnt_one n (fun x y hx hy => h x y (by omega) (by omega))
section MD
variable {O A B E H : Nat → Int32} {l r p d : Nat} {N N1 N2 : fm_M} {S S1 S2 : Nat → Prop} {a b c : Int32}
theorem MT_r (h : MI N) (ha : a = 0 ∨ a = 1) : MT N N (fun _ => False) a a := ⟨h, fun _ _ => ⟨Or.inl, fun h => h.elim id False.elim⟩, rfl, fun _ _ => rfl, ha, fun h => ⟨h, fun _ _ => rfl⟩, Or.inl, Nat.le_refl _⟩
theorem MT_t (h1 : MT N N1 S1 a b) (h2 : MT N1 N2 S2 b c) : MT N N2 (fun y => S1 y ∨ S2 y) a c := by
  obtain ⟨a1, a2, a3, a4, a5, a6, a7, a8⟩ := h1
  obtain ⟨b1, b2, b3, b4, b5, b6, b7, b8⟩ := h2
  refine ⟨b1, fun y hy => by rw [b2 y hy, a2 y hy, or_assoc], b3.trans a3, fun q hq => (b4 q hq).trans (a4 q hq), b5, fun h => ?_, fun h => ?_, by omega⟩
  · obtain ⟨x1, x2⟩ := b6 h
    obtain ⟨y1, y2⟩ := a6 x1
    exact ⟨y1, fun y hy => (x2 y hy).trans (y2 y hy)⟩
  · rcases b7 h with h9 | h9
    · rcases a7 h9 with h8 | h8
      · exact Or.inl h8
      · exact Or.inr (by omega)
    · exact Or.inr (by omega)
theorem MT_e (h : MT N N1 S1 a b) (hs : ∀ y, y < 250 → (S1 y ↔ S2 y)) : MT N N1 S2 a b := by
  obtain ⟨a1, a2, a3⟩ := h
  exact ⟨a1, fun y hy => by rw [a2 y hy, hs y hy], a3⟩
theorem m_reach (h : MI N) (hp : p < 24) (hd : d < 10) : ∃ b N', f_Mo_reach 174 (nI p) (nI d) N = some (b, N') ∧ ∀ a, (a = 0 ∨ a = 1) → MT N N' (fun y => y = 10 * p + d) a (if b = 0 then a else 1) := by
  have hJ : (10 * nI p) + nI d = nI (10 * p + d) := by rw [show (10 : Int32) * nI p = nI (10 * p) from nI_mul 10 p, nI_add]
  rcases h (10 * p + d) (by omega) with h0 | h1
  · refine ⟨1, fm_sI N 191 (10 * p + d) 1, ?_, fun a ha => ?_⟩
    · unfold f_Mo_reach
      rw [gr_174_24, ob_e, hJ, az_n an_191 (by omega) (by decide), ob_e, h0, if_pos rfl, ob_e, sz_n an_191 (by omega) (by decide), ob_e]
    · have r1 : ∀ y, (fm_sI N 191 (10 * p + d) 1).1 191 y = if y = 10 * p + d then 1 else N.1 191 y := fun y => by rw [sI_r]; simp
      have hc : cM (fm_sI N 191 (10 * p + d) 1) = cM N + 1 := by
        unfold cM
        refine cnt_up (x := 10 * p + d) ?_ (fun y => ?_) 250 (by omega)
        · unfold bM
          rw [h0]
          decide
        · unfold bM
          rw [r1]
          by_cases hy : y = 10 * p + d
          · rw [if_pos hy, decide_eq_true hy, Bool.or_true]; rfl
          · rw [if_neg hy, decide_eq_false hy, Bool.or_false]
      rw [if_neg (by decide)]
      refine ⟨fun y hy => ?_, fun y hy => ?_, rfl, fun q hq => row_ne hq, Or.inr rfl, fun h => absurd h (by decide), fun _ => Or.inr (by omega), by omega⟩
      · rw [r1]
        by_cases hyx : y = 10 * p + d
        · rw [if_pos hyx]; exact Or.inr rfl
        · rw [if_neg hyx]; exact h y hy
      · unfold mkM
        rw [r1]
        by_cases hyx : y = 10 * p + d
        · rw [if_pos hyx]; exact ⟨fun _ => Or.inr hyx, fun _ => rfl⟩
        · rw [if_neg hyx]; exact ⟨Or.inl, fun h => h.elim id (fun h9 => absurd h9 hyx)⟩
  · refine ⟨0, N, ?_, fun a ha => ?_⟩
    · unfold f_Mo_reach
      rw [gr_174_24, ob_e, hJ, az_n an_191 (by omega) (by decide), ob_e, h1, if_neg (by decide)]
    · rw [if_pos rfl]
      exact ⟨h, fun y _ => ⟨Or.inl, fun h9 => h9.elim id (fun h8 => by rw [h8]; exact h1)⟩, rfl, fun _ _ => rfl, ha, fun h => ⟨h, fun _ _ => rfl⟩, Or.inl, Nat.le_refl _⟩
/-- the rows that the reference reads -/
def dm (N : fm_M) (O A B E H : Nat → Int32) (l r : Nat) : Prop := N.1 174 4 = nI l ∧ N.1 174 7 = nI r ∧ (∀ i, i < l → N.1 177 i = O i ∧ N.1 178 i = A i) ∧ ∀ j, j < r → N.1 179 (3 * j) = B j ∧ N.1 179 (3 * j + 1) = E j ∧ N.1 179 (3 * j + 2) = H j
theorem dm_k (h : dm N O A B E H l r) (hk : ∀ q, q ≠ 191 → N1.1 q = N.1 q) : dm N1 O A B E H l r := by
  unfold dm at h ⊢
  rw [hk 174 (by decide), hk 177 (by decide), hk 178 (by decide), hk 179 (by decide)]
  exact h
theorem m_rng (hg : gd O A B E H l r) (hp : p < l) : ∀ (k j n : Nat) (N : fm_M) (a : Int32), j + k = r → k < n → dm N O A B E H l r → MI N → (a = 0 ∨ a = 1) → ∃ b N', h_Mo_follow_103 n 174 (nI p) a (nI j) N = some (b, N') ∧ MT N N' (fun y => ∃ j', j ≤ j' ∧ j' < r ∧ oN (B j') ≤ p ∧ p < oN (E j') ∧ y = 10 * oN (H j') + 1) a b
  | 0, j, n + 1, N, a, hj, _, hd, hc, ha => by
    have : j = r := by omega
    subst this
    have hr2 := hg.2.2.1
    refine ⟨a, N, ?_, MT_e (MT_r hc ha) (fun y _ => ⟨False.elim, fun ⟨j', a, b, _⟩ => absurd b (by omega)⟩)⟩
    rw [h_Mo_follow_103, gi_e cl_174, ob_e, hd.2.1, if_pos (nI_le (Nat.le_refl _) (by omega))]
    rcases ha with rfl | rfl
    · rw [bz_0, ob_e]
    · rw [bz_1, ob_e]
  | k + 1, j, n + 1, N, a, hj, hn, hd, hc, ha => by
    have hr2 := hg.2.2.1
    have hl24 := hg.2.1
    obtain ⟨b, e, h, b1, b2, b3, b4, b5, b6⟩ := hg.2.2.2.2.2 j (by omega)
    have hB : oN (B j) = b := by rw [b1, oN_n (by omega)]
    have hE : oN (E j) = e := by rw [b2, oN_n (by omega)]
    have hH : oN (H j) = h := by rw [b3, oN_n (by omega)]
    obtain ⟨d1, d2, d3⟩ := hd.2.2.2 j (by omega)
    have e3 : (3 : Int32) * nI j = nI (3 * j) := nI_mul 3 j
    have e32 : nI (3 * j) + 2 = nI (3 * j + 2) := nI_add _ 2
    have pre : h_Mo_follow_103 (n + 1) 174 (nI p) a (nI j) N = if nI p < nI b then j_Mo_follow_144 (h_Mo_follow_103 n) 174 (nI p) a (nI j) N else if nI e ≤ nI p then j_Mo_follow_144 (h_Mo_follow_103 n) 174 (nI p) a (nI j) N else j_Mo_follow_145 (h_Mo_follow_103 n) 174 (nI p) a (nI j) 1 N := by
      rw [h_Mo_follow_103, gi_e cl_174, ob_e, hd.2.1, if_neg (nI_ge (by omega) (by omega)), gr_174_8, ob_e, e3, ai_n an_179 (by omega) (by decide), ob_e, d1, b1, ob_e, nI_1, ai_n an_179 (by omega) (by decide), ob_e, d2, b2]
    rw [pre]
    by_cases hcv : b ≤ p ∧ p < e
    · rw [if_neg (nI_nlt hcv.1 (by omega)), if_neg (nI_ge hcv.2 (by omega))]
      obtain ⟨b0, N1, g1, g2⟩ := m_reach (p := h) (d := 1) hc (by omega) (by decide)
      have g2' := g2 a ha
      obtain ⟨b2', N2, g3, g4⟩ := m_rng hg hp k (j + 1) n N1 (if b0 = 0 then a else 1) (by omega) (by omega) (dm_k hd g2'.2.2.2.1) g2'.1 g2'.2.2.2.2.1
      refine ⟨b2', N2, ?_, MT_e (MT_t g2' g4) (fun y hy => ⟨fun h9 => ?_, fun ⟨j', a, b', c', d', e'⟩ => ?_⟩)⟩
      · unfold j_Mo_follow_145 j_Mo_follow_174
        rw [if_neg (by decide), gr_174_8, ob_e, e3, e32, ai_n an_179 (by omega) (by decide), ob_e, d3, b3, ck_e cl_174, ob_e, show f_Mo_reach 174 (nI h) 1 N = some (b0, N1) from g1, bd_e, nI_1]
        by_cases hb0 : b0 = 0
        · rw [if_pos hb0] at g3 ⊢
          exact g3
        · rw [if_neg hb0] at g3 ⊢
          exact g3
      · rcases h9 with h9 | ⟨j', a, b', c', d', e'⟩
        · exact ⟨j, Nat.le_refl _, by omega, by omega, by omega, by omega⟩
        · exact ⟨j', by omega, b', c', d', e'⟩
      · by_cases hjj : j' = j
        · subst hjj
          exact Or.inl (by omega)
        · exact Or.inr ⟨j', by omega, b', c', d', e'⟩
    · obtain ⟨b2', N2, g3, g4⟩ := m_rng hg hp k (j + 1) n N a (by omega) (by omega) hd hc ha
      refine ⟨b2', N2, ?_, MT_e g4 (fun y hy => ⟨fun ⟨j', a, b', c', d', e'⟩ => ⟨j', by omega, b', c', d', e'⟩, fun ⟨j', a, b', c', d', e'⟩ => ?_⟩)⟩
      · unfold j_Mo_follow_144 j_Mo_follow_145 j_Mo_follow_174
        rw [if_pos (show (0 : Int32) = 0 from rfl), nI_1]
        by_cases h1 : p < b
        · rw [if_pos (nI_lt h1 (by omega))]
          exact g3
        · rw [if_neg (nI_nlt (by omega) (by omega)), if_pos (nI_le (by omega) (by omega))]
          exact g3
      · by_cases hjj : j' = j
        · subst hjj
          exact absurd ⟨by omega, by omega⟩ hcv
        · exact ⟨j', by omega, b', c', d', e'⟩
theorem mtk_e {M : fm_M} : ∀ o, o ≤ 15 → f_Mo_takes (nI o) M = some (nI (tkN o), M) := by
  intro o ho
  unfold f_Mo_takes j_Mo_takes_14 j_Mo_takes_55
  rcases (show o = 0 ∨ o = 1 ∨ o = 2 ∨ o = 3 ∨ o = 4 ∨ o = 5 ∨ o = 6 ∨ o = 7 ∨ o = 8 ∨ o = 9 ∨ o = 10 ∨ o = 11 ∨ o = 12 ∨ o = 13 ∨ o = 14 ∨ o = 15 by omega) with rfl | rfl | rfl | rfl | rfl | rfl | rfl | rfl | rfl | rfl | rfl | rfl | rfl | rfl | rfl | rfl <;> (repeat (first | rw [if_neg (by decide)] | rw [if_pos (by decide)])) <;> rfl
theorem mpt_e {M : fm_M} : ∀ o, o ≤ 15 → f_Mo_puts (nI o) M = some (nI (ptN o), M) := by
  intro o ho
  unfold f_Mo_puts j_Mo_puts_29 j_Mo_puts_41
  rcases (show o = 0 ∨ o = 1 ∨ o = 2 ∨ o = 3 ∨ o = 4 ∨ o = 5 ∨ o = 6 ∨ o = 7 ∨ o = 8 ∨ o = 9 ∨ o = 10 ∨ o = 11 ∨ o = 12 ∨ o = 13 ∨ o = 14 ∨ o = 15 by omega) with rfl | rfl | rfl | rfl | rfl | rfl | rfl | rfl | rfl | rfl | rfl | rfl | rfl | rfl | rfl | rfl <;> (repeat (first | rw [if_neg (by decide)] | rw [if_pos (by decide)])) <;> rfl
theorem m_follow (hg : gd O A B E H l r) (hp : p < l) (hd9 : d < 10) (hd : dm N O A B E H l r) (hc : MI N) : ∃ b N', f_Mo_follow 174 (nI p) (nI d) N = some (b, N') ∧ MT N N' (fun y => mkM N (10 * p + d) ∧ suc O A B E H r p d (y / 10) (y % 10)) 0 b := by
  obtain ⟨g0, g1, g2, g3, -, -⟩ := id hg
  obtain ⟨o, o1, o2, o3⟩ := g3 p hp
  have ho : oN (O p) = o := by rw [o2, oN_n (by omega)]
  have hJ : (10 * nI p) + nI d = nI (10 * p + d) := by rw [show (10 : Int32) * nI p = nI (10 * p) from nI_mul 10 p, nI_add]
  have hstop : ¬ (mkM N (10 * p + d) ∧ d ≤ 5 ∧ tkN o ≤ d) → MT N N (fun y => mkM N (10 * p + d) ∧ suc O A B E H r p d (y / 10) (y % 10)) 0 0 := fun h9 => MT_e (MT_r hc (Or.inl rfl)) (fun y _ => ⟨False.elim, fun ⟨m, a, b, _⟩ => h9 ⟨m, a, by rw [ho] at b; exact b⟩⟩)
  unfold f_Mo_follow
  rw [gr_174_5, ob_e, ai_n an_177 (by omega) (by decide), ob_e, (hd.2.2.1 p hp).1, o2, gr_174_24, ob_e, hJ, az_n an_191 (by omega) (by decide), ob_e]
  rcases hc (10 * p + d) (by omega) with hm0 | hm1
  · rw [hm0, if_pos rfl]
    exact ⟨0, N, rfl, hstop (fun h9 => by have := h9.1; unfold mkM at this; rw [hm0] at this; exact absurd this (by decide))⟩
  · rw [hm1, if_neg (by decide)]
    by_cases h5 : d ≤ 5
    · rw [if_neg (show ¬ 5 < nI d from nI_nlt (a := 5) h5 (by decide)), mtk_e o o1, bd_e]
      by_cases htk : tkN o ≤ d
      · have hpt := pt_le o (by omega)
        have hdn : dn O p d = d - tkN o + ptN o := by unfold dn; rw [ho]
        have hdn7 : dn O p d < 7 := by omega
        rw [if_pos (nI_le htk (by omega)), mtk_e o o1, bd_e, mpt_e o o1, bd_e, e_gon (by omega), bd_e, nI_sub htk, nI_add, ← hdn]
        have tail : ∀ (N1 : fm_M) (a : Int32), (a = 0 ∨ a = 1) → dm N1 O A B E H l r → MI N1 → ∃ b N', j_Mo_follow_73 174 (nI p) (nI o) (nI (dn O p d)) a N1 = some (b, N') ∧ MT N1 N' (fun y => ((oN (O p) = 8 ∨ oN (O p) = 9 ∨ oN (O p) = 10) ∧ y / 10 = oN (A p) ∧ y % 10 = dn O p d) ∨ ∃ j, j < r ∧ oN (B j) ≤ p ∧ p < oN (E j) ∧ y / 10 = oN (H j) ∧ y % 10 = 1) a b := by
          intro N1 a ha hd1 hc1
          unfold j_Mo_follow_73 j_Mo_follow_100
          rw [e_jmp (by omega), bd_e]
          by_cases hb : o = 8 ∨ o = 9 ∨ o = 10
          · obtain ⟨x, x1, x2⟩ := o3 hb
            obtain ⟨b0, N2, q1, q2⟩ := m_reach (p := x) (d := dn O p d) hc1 (by omega) (by omega)
            have q2' := q2 a ha
            obtain ⟨b3, N3, q3, q4⟩ := m_rng hg hp r 0 100000 N2 (if b0 = 0 then a else 1) (by omega) (by omega) (dm_k hd1 q2'.2.2.2.1) q2'.1 q2'.2.2.2.2.1
            refine ⟨b3, N3, ?_, MT_e (MT_t q2' q4) (fun y hy => ⟨fun h9 => ?_, fun h9 => ?_⟩)⟩
            · rw [if_pos hb, if_neg (by decide), gr_174_6, ob_e, ai_n an_178 (by omega) (by decide), ob_e, (hd1.2.2.1 p hp).2, x2, ck_e cl_174, ob_e, q1, bd_e]
              by_cases hb0 : b0 = 0
              · rw [if_pos hb0] at q3 ⊢
                exact q3
              · rw [if_neg hb0] at q3 ⊢
                exact q3
            · rcases h9 with h9 | ⟨j', a, b', c', d', e'⟩
              · exact Or.inl ⟨by rw [ho]; exact hb, by rw [x2, oN_n (by omega)]; omega, by omega⟩
              · exact Or.inr ⟨j', b', c', d', by omega, by omega⟩
            · rcases h9 with ⟨a1, a2, a3⟩ | ⟨j', b', c', d', e1, e2⟩
              · rw [x2, oN_n (by omega)] at a2
                exact Or.inl (by omega)
              · exact Or.inr ⟨j', by omega, b', c', d', by omega⟩
          · obtain ⟨b3, N3, q3, q4⟩ := m_rng hg hp r 0 100000 N1 a (by omega) (by omega) hd1 hc1 ha
            refine ⟨b3, N3, ?_, MT_e q4 (fun y hy => ⟨fun ⟨j', a, b', c', d', e'⟩ => Or.inr ⟨j', b', c', d', by omega, by omega⟩, fun h9 => ?_⟩)⟩
            · rw [if_neg hb, if_pos rfl]
              exact q3
            · rcases h9 with ⟨a1, a2, a3⟩ | ⟨j', b', c', d', e1, e2⟩
              · rw [ho] at a1
                exact absurd a1 hb
              · exact ⟨j', by omega, b', c', d', by omega⟩
        have fin : ∀ y, (mkM N (10 * p + d) ∧ suc O A B E H r p d (y / 10) (y % 10)) ↔ ((¬ (oN (O p) = 8 ∨ oN (O p) = 14 ∨ oN (O p) = 15) ∧ y / 10 = p + 1 ∧ y % 10 = dn O p d) ∨ ((oN (O p) = 8 ∨ oN (O p) = 9 ∨ oN (O p) = 10) ∧ y / 10 = oN (A p) ∧ y % 10 = dn O p d) ∨ ∃ j, j < r ∧ oN (B j) ≤ p ∧ p < oN (E j) ∧ y / 10 = oN (H j) ∧ y % 10 = 1) := fun y => ⟨fun h9 => h9.2.2.2, fun h9 => ⟨hm1, h5, by rw [ho]; exact htk, h9⟩⟩
        by_cases hcl : o = 8 ∨ o = 14 ∨ o = 15
        · obtain ⟨b3, N3, q3, q4⟩ := tail N 0 (Or.inl rfl) hd hc
          refine ⟨b3, N3, ?_, MT_e q4 (fun y hy => ?_)⟩
          · rw [if_pos hcl, if_pos rfl]
            exact q3
          · rw [fin]
            exact ⟨Or.inr, fun h9 => h9.elim (fun h8 => absurd (by rw [ho]; exact hcl) h8.1) id⟩
        · have hsb := (suc_b (p' := p + 1) (d' := dn O p d) hg hp ⟨h5, by rw [ho]; exact htk, Or.inl ⟨by rw [ho]; exact hcl, rfl, rfl⟩⟩).1
          obtain ⟨b0, N1, q1, q2⟩ := m_reach (p := p + 1) (d := dn O p d) hc (by omega) (by omega)
          have q2' := q2 0 (Or.inl rfl)
          obtain ⟨b3, N3, q3, q4⟩ := tail N1 (if b0 = 0 then 0 else 1) q2'.2.2.2.2.1 (dm_k hd q2'.2.2.2.1) q2'.1
          refine ⟨b3, N3, ?_, MT_e (MT_t q2' q4) (fun y hy => ?_)⟩
          · rw [if_neg hcl, if_neg (by decide), ck_e cl_174, ob_e, nI_1, q1, bd_e]
            unfold j_Mo_follow_72
            by_cases hb0 : b0 = 0
            · rw [if_pos hb0] at q3 ⊢
              exact q3
            · rw [if_neg hb0] at q3 ⊢
              exact q3
          · rw [fin]
            refine ⟨fun h9 => ?_, fun h9 => ?_⟩
            · rcases h9 with h9 | h9
              · exact Or.inl ⟨by rw [ho]; exact hcl, by omega, by omega⟩
              · exact Or.inr h9
            · rcases h9 with ⟨-, a, b⟩ | h9
              · exact Or.inl (by omega)
              · exact Or.inr h9
      · rw [if_neg (fun h9 => htk ((nI_leI (by have := tk3 o (by omega); omega) (by omega)).mp h9))]
        exact ⟨0, N, rfl, hstop (fun h9 => htk h9.2.2)⟩
    · rw [if_pos (show 5 < nI d from nI_lt (a := 5) (by omega) (by omega))]
      exact ⟨0, N, rfl, hstop (fun h9 => h5 h9.2.1)⟩
/-- one pass -/
theorem m_pass (hg : gd O A B E H l r) (k31 : Nat → Int32 → fm_M → Option (Int32 × fm_M)) : ∀ (k j n : Nat) (N : fm_M) (a : Int32), j + k = 10 * l → k < n → (a = 0 ∨ a = 1) → dm N O A B E H l r → MI N → (∀ y, y < 250 → mkM N y → Rch O A B E H r (y / 10) (y % 10)) → ∃ b N', h_Mo_badDepth_39 k31 n 174 a (nI j) N = k31 174 b N' ∧ MI N' ∧ (∀ y, y < 250 → mkM N' y → Rch O A B E H r (y / 10) (y % 10)) ∧ (∀ y, y < 250 → mkM N y → mkM N' y) ∧ N'.2 = N.2 ∧ (∀ q, q ≠ 191 → N'.1 q = N.1 q) ∧ (b = 0 ∨ b = 1) ∧ (b = 0 → a = 0 ∧ (∀ y, y < 250 → N'.1 191 y = N.1 191 y) ∧ ∀ x, j ≤ x → x < 10 * l → mkM N x → ∀ y, y < 250 → suc O A B E H r (x / 10) (x % 10) (y / 10) (y % 10) → mkM N y) ∧ (b = 1 → a = 1 ∨ cM N < cM N') ∧ cM N ≤ cM N'
  | 0, j, n + 1, N, a, hj, _, ha, hd, hc, hs => by
    have : j = 10 * l := by omega
    subst this
    have hl24 := hg.2.1
    refine ⟨a, N, ?_, hc, hs, fun _ _ h => h, rfl, fun _ _ => rfl, ha, fun h => ⟨h, fun _ _ => rfl, fun x h1 h2 => absurd h2 (by omega)⟩, Or.inl, Nat.le_refl _⟩
    rw [h_Mo_badDepth_39, gi_e cl_174, ob_e, hd.1, show (10 : Int32) * nI l = nI (10 * l) from nI_mul 10 l, if_pos (nI_le (Nat.le_refl _) (by omega))]
  | k + 1, j, n + 1, N, a, hj, hn, ha, hd, hc, hs => by
    have hl24 := hg.2.1
    obtain ⟨b0, N1, g1, g2⟩ := m_follow (p := j / 10) (d := j % 10) hg (by omega) (by omega) hd hc
    obtain ⟨t1, t2, t3, t4, t5, t6, t7, t8⟩ := id g2
    rw [show 10 * (j / 10) + j % 10 = j by omega] at t2
    have hs1 : ∀ y, y < 250 → mkM N1 y → Rch O A B E H r (y / 10) (y % 10) := fun y hy hm => by
      rcases (t2 y hy).mp hm with h9 | ⟨h9, h8⟩
      · exact hs y hy h9
      · exact Rch_s (hs j (by omega) h9) h8
    have ha1 : (if b0 = 0 then a else (1 : Int32)) = 0 ∨ (if b0 = 0 then a else (1 : Int32)) = 1 := by
      by_cases hb0 : b0 = 0
      · rw [if_pos hb0]; exact ha
      · rw [if_neg hb0]; exact Or.inr rfl
    obtain ⟨b, N', q1, q2, q3, q4, q5, q6, q7, q8, q9, q10⟩ := m_pass hg k31 k (j + 1) n N1 (if b0 = 0 then a else 1) (by omega) (by omega) ha1 (dm_k hd t4) t1 hs1
    refine ⟨b, N', ?_, q2, q3, fun y hy hm => q4 y hy ((t2 y hy).mpr (Or.inl hm)), q5.trans t3, fun q hq => (q6 q hq).trans (t4 q hq), q7, fun h => ?_, fun h => ?_, by omega⟩
    · rw [h_Mo_badDepth_39, gi_e cl_174, ob_e, hd.1, show (10 : Int32) * nI l = nI (10 * l) from nI_mul 10 l, if_neg (nI_ge (by omega) (by omega)), ck_e cl_174, ob_e, show (10 : Int32) = nI 10 from rfl, pk_rem (by omega) (by decide) (by decide), pk_div (by omega) (by decide) (by decide), g1, bd_e]
      unfold j_Mo_badDepth_67
      rw [nI_1]
      by_cases hb0 : b0 = 0
      · rw [if_pos hb0] at q1 ⊢
        exact q1
      · rw [if_neg hb0] at q1 ⊢
        exact q1
    · obtain ⟨y1, y2, y3⟩ := q8 h
      by_cases hb0 : b0 = 0
      · rw [if_pos hb0] at y1
        obtain ⟨-, z2⟩ := t6 hb0
        refine ⟨y1, fun y hy => (y2 y hy).trans (z2 y hy), fun x h1 h2 hm y hy hsu => ?_⟩
        by_cases hxj : x = j
        · subst hxj
          have := (t2 y hy).mpr (Or.inr ⟨hm, hsu⟩)
          unfold mkM at this ⊢
          rw [z2 y hy] at this
          exact this
        · have hm1 : mkM N1 x := by
            unfold mkM at hm ⊢
            rw [z2 x (by omega)]
            exact hm
          have := y3 x (by omega) h2 hm1 y hy hsu
          unfold mkM at this ⊢
          rw [z2 y hy] at this
          exact this
      · rw [if_neg hb0] at y1
        exact absurd y1 (by decide)
    · rcases q9 h with h9 | h9
      · by_cases hb0 : b0 = 0
        · rw [if_pos hb0] at h9
          exact Or.inl h9
        · rcases t7 (t5.resolve_left hb0) with h8 | h8
          · exact absurd h8 (by decide)
          · exact Or.inr (by omega)
      · exact Or.inr (by omega)
/-- one pass more -/
theorem m_once (hg : gd O A B E H l r) (n : Nat) (hd : dm N O A B E H l r) (hc : MI N) (hs : ∀ y, y < 250 → mkM N y → Rch O A B E H r (y / 10) (y % 10)) (h0 : mkM N 0) : (∃ N', h_Mo_badDepth_31 (n + 2) 174 1 N = h_Mo_badDepth_78 100000 174 0 N' ∧ MI N' ∧ (∀ y, y < 250 → (mkM N' y ↔ Rch O A B E H r (y / 10) (y % 10))) ∧ N'.2 = N.2 ∧ ∀ q, q ≠ 191 → N'.1 q = N.1 q) ∨ ∃ N1, h_Mo_badDepth_31 (n + 2) 174 1 N = h_Mo_badDepth_31 (n + 1) 174 1 N1 ∧ cM N < cM N1 ∧ dm N1 O A B E H l r ∧ MI N1 ∧ (∀ y, y < 250 → mkM N1 y → Rch O A B E H r (y / 10) (y % 10)) ∧ mkM N1 0 ∧ N1.2 = N.2 ∧ ∀ q, q ≠ 191 → N1.1 q = N.1 q := by
  have hl24 := hg.2.1
  obtain ⟨b, N1, q1, q2, q3, q4, q5, q6, q7, q8, q9, q10⟩ := m_pass hg (h_Mo_badDepth_31 (n + 1)) (10 * l) 0 100000 N 0 (by omega) (by omega) (Or.inl rfl) hd hc hs
  have pre : h_Mo_badDepth_31 (n + 2) 174 1 N = h_Mo_badDepth_31 (n + 1) 174 b N1 := by
    rw [h_Mo_badDepth_31, if_neg (by decide)]
    exact q1
  rcases q7 with hb | hb
  · obtain ⟨-, y2, y3⟩ := q8 hb
    subst hb
    have hmk : ∀ y, y < 250 → (mkM N1 y ↔ mkM N y) := fun y hy => by unfold mkM; rw [y2 y hy]
    have heq := Rch_eq hg (X := fun p d => mkM N (10 * p + d)) h0 (fun p d hp hd6 hm => by
      have := hs (10 * p + d) (by omega) hm
      rw [show (10 * p + d) / 10 = p by omega, show (10 * p + d) % 10 = d by omega] at this
      exact this) (fun p d p' d' hp hd6 hm hsu => by
      have hb := suc_b hg hp hsu
      refine y3 (10 * p + d) (by omega) (by omega) hm (10 * p' + d') (by omega) ?_
      rw [show (10 * p + d) / 10 = p by omega, show (10 * p + d) % 10 = d by omega, show (10 * p' + d') / 10 = p' by omega, show (10 * p' + d') % 10 = d' by omega]
      exact hsu)
    refine Or.inl ⟨N1, ?_, q2, fun y hy => ⟨q3 y hy, fun hR => ?_⟩, q5, q6⟩
    · rw [pre, h_Mo_badDepth_31, if_pos rfl]
    · have hb := Rch_b hg hR
      have := (heq (y / 10) (y % 10) hb.1 hb.2).mpr hR
      rw [show 10 * (y / 10) + y % 10 = y by omega] at this
      exact (hmk y hy).mpr this
  · have hlt : cM N < cM N1 := (q9 hb).resolve_left (by decide)
    exact Or.inr ⟨N1, by rw [pre, hb], hlt, dm_k hd q6, q2, q3, q4 0 (by decide) h0, q5, q6⟩
/-- passes, until nothing is new -/
theorem m_while (hg : gd O A B E H l r) (μ : Nat) : ∀ (n : Nat) (N : fm_M), 250 ≤ cM N + μ → μ ≤ n → dm N O A B E H l r → MI N → (∀ y, y < 250 → mkM N y → Rch O A B E H r (y / 10) (y % 10)) → mkM N 0 → ∃ N', h_Mo_badDepth_31 (n + 2) 174 1 N = h_Mo_badDepth_78 100000 174 0 N' ∧ MI N' ∧ (∀ y, y < 250 → (mkM N' y ↔ Rch O A B E H r (y / 10) (y % 10))) ∧ N'.2 = N.2 ∧ ∀ q, q ≠ 191 → N'.1 q = N.1 q := by
  induction μ with
  | zero =>
    intro n N hμ hn hd hc hs h0
    rcases m_once hg n hd hc hs h0 with h9 | ⟨N1, -, h9, -⟩
    · exact h9
    · have : cM N1 ≤ 250 := cnt_le _ _
      omega
  | succ μ ih =>
    intro n N hμ hn hd hc hs h0
    rcases m_once hg n hd hc hs h0 with h9 | ⟨N1, r1, r2, r3, r4, r5, r6, r7, r8⟩
    · exact h9
    · obtain ⟨m, rfl⟩ : ∃ m, n = m + 1 := ⟨n - 1, by omega⟩
      obtain ⟨N', s1, s2, s3, s4, s5⟩ := ih m N1 (by omega) (by omega) r3 r4 r5 r6
      exact ⟨N', r1.trans s1, s2, s3, s4.trans r7, fun q hq => (s5 q hq).trans (r8 q hq)⟩
/-- the verdict of one instruction -/
theorem m_row {i o : Nat} {k78 : Nat → Int32 → fm_M → Option (Int32 × fm_M)} (hc : MI N) (hi : i < 24) (ho : o ≤ 15) (hO : N.1 177 i = nI o) : ∀ (k d n : Nat) (bad : Int32), d + k = 10 → k < n → ((bad = 0 ∧ ∀ d', d' < d → mkM N (10 * i + d') → tkN o ≤ d' ∧ d' ≤ 5) ∨ (bad = 1 ∧ ¬ ∀ d', d' < d → mkM N (10 * i + d') → tkN o ≤ d' ∧ d' ≤ 5)) → (h_Mo_badDepth_94 k78 n 174 (nI i) (nI (cnt (fun d => bM N (10 * i + d)) d)) bad (nI d) N = k78 174 (nI (i + 1)) N ∧ (∀ d', d' < 10 → mkM N (10 * i + d') → tkN o ≤ d' ∧ d' ≤ 5) ∧ cnt (fun d => bM N (10 * i + d)) 10 ≤ 1) ∨ (h_Mo_badDepth_94 k78 n 174 (nI i) (nI (cnt (fun d => bM N (10 * i + d)) d)) bad (nI d) N = some (nI i, N) ∧ ¬ ((∀ d', d' < 10 → mkM N (10 * i + d') → tkN o ≤ d' ∧ d' ≤ 5) ∧ cnt (fun d => bM N (10 * i + d)) 10 ≤ 1))
  | 0, d, n + 1, bad, hd, _, hb => by
    have : d = 10 := by omega
    subst this
    have hle := cnt_le (fun d => bM N (10 * i + d)) 10
    rw [h_Mo_badDepth_94, if_pos (by decide)]
    rcases hb with ⟨hb, hb2⟩ | ⟨hb, hb2⟩
    · rw [if_pos hb]
      by_cases h1 : cnt (fun d => bM N (10 * i + d)) 10 ≤ 1
      · rw [if_pos (show nI _ ≤ 1 from nI_le (b := 1) h1 (by decide)), nI_1]
        exact Or.inl ⟨rfl, hb2, h1⟩
      · rw [if_neg (show ¬ nI _ ≤ 1 from fun h9 => h1 ((nI_leI (b := 1) (by omega) (by decide)).mp h9))]
        exact Or.inr ⟨rfl, fun h9 => h1 h9.2⟩
    · rw [if_neg (by rw [hb]; decide)]
      exact Or.inr ⟨rfl, fun h9 => hb2 h9.1⟩
  | k + 1, d, n + 1, bad, hd, hn, hb => by
    have hle := cnt_le (fun d => bM N (10 * i + d)) d
    have hJ : (10 * nI i) + nI d = nI (10 * i + d) := by rw [show (10 : Int32) * nI i = nI (10 * i) from nI_mul 10 i, nI_add]
    have ih := fun bad hb => m_row (k78 := k78) hc hi ho hO k (d + 1) n bad (by omega) (by omega) hb
    rw [h_Mo_badDepth_94, if_neg (show ¬ 10 ≤ nI d from nI_ge (b := 10) (by omega) (by decide)), gr_174_24, ob_e, hJ, az_n an_191 (by omega) (by decide), ob_e]
    rcases hc (10 * i + d) (by omega) with hm | hm
    · have hcnt : cnt (fun d => bM N (10 * i + d)) (d + 1) = cnt (fun d => bM N (10 * i + d)) d := by
        rw [cnt, show bM N (10 * i + d) = false by unfold bM; rw [hm]; decide]
        rfl
      have hnm : ¬ mkM N (10 * i + d) := by unfold mkM; rw [hm]; decide
      have hbn : (bad = 0 ∧ ∀ d', d' < d + 1 → mkM N (10 * i + d') → tkN o ≤ d' ∧ d' ≤ 5) ∨ (bad = 1 ∧ ¬ ∀ d', d' < d + 1 → mkM N (10 * i + d') → tkN o ≤ d' ∧ d' ≤ 5) := by
        rcases hb with ⟨hb, hb2⟩ | ⟨hb, hb2⟩
        · refine Or.inl ⟨hb, fun d' h1 h2 => ?_⟩
          by_cases hdd : d' = d
          · rw [hdd] at h2; exact absurd h2 hnm
          · exact hb2 d' (by omega) h2
        · exact Or.inr ⟨hb, fun h9 => hb2 (fun d' h1 h2 => h9 d' (by omega) h2)⟩
      have ih' := ih bad hbn
      rw [hcnt] at ih'
      rw [hm, if_pos rfl]
      unfold j_Mo_badDepth_127 j_Mo_badDepth_162 j_Mo_badDepth_158 j_Mo_badDepth_163
      rw [nI_1]
      rcases hb with ⟨hb, hb2⟩ | ⟨hb, hb2⟩
      · subst hb
        rw [if_pos rfl, if_pos rfl]
        exact ih'
      · subst hb
        rw [if_neg (by decide)]
        exact ih'
    · have hcnt : cnt (fun d => bM N (10 * i + d)) (d + 1) = cnt (fun d => bM N (10 * i + d)) d + 1 := by
        rw [cnt, show bM N (10 * i + d) = true by unfold bM; rw [hm]; decide]
        rfl
      have hmk : mkM N (10 * i + d) := hm
      rw [hm, if_neg (by decide), nI_1]
      unfold j_Mo_badDepth_127 j_Mo_badDepth_162 j_Mo_badDepth_158 j_Mo_badDepth_163
      rw [nI_1, ← hcnt]
      rcases hb with ⟨hb, hb2⟩ | ⟨hb, hb2⟩
      · subst hb
        rw [if_pos rfl, if_neg (by decide)]
        by_cases h5 : d ≤ 5
        · rw [if_neg (show ¬ 5 < nI d from nI_nlt (a := 5) h5 (by decide)), gr_174_5, ob_e, ai_n an_177 (by omega) (by decide), ob_e, hO, mtk_e o ho, bd_e]
          by_cases htk : tkN o ≤ d
          · rw [if_pos (nI_le htk (by omega))]
            refine ih 0 (Or.inl ⟨rfl, fun d' h1 h2 => ?_⟩)
            by_cases hdd : d' = d
            · rw [hdd]; exact ⟨htk, h5⟩
            · exact hb2 d' (by omega) h2
          · rw [if_neg (fun h9 => htk ((nI_leI (by have := tk3 o (by omega); omega) (by omega)).mp h9))]
            exact ih 1 (Or.inr ⟨rfl, fun h9 => htk (h9 d (by omega) hmk).1⟩)
        · rw [if_pos (show 5 < nI d from nI_lt (a := 5) (by omega) (by omega))]
          exact ih 1 (Or.inr ⟨rfl, fun h9 => h5 (h9 d (by omega) hmk).2⟩)
      · subst hb
        rw [if_neg (by decide)]
        exact ih 1 (Or.inr ⟨rfl, fun h9 => hb2 (fun d' h1 h2 => h9 d' (by omega) h2)⟩)
theorem m_ver (hg : gd O A B E H l r) (hd : dm N O A B E H l r) (hc : MI N) (hm : ∀ y, y < 250 → (mkM N y ↔ Rch O A B E H r (y / 10) (y % 10))) : ∀ (k i n : Nat), i + k = l → k < n → (∃ j, i ≤ j ∧ j < l ∧ ¬ okD O A B E H r j ∧ (∀ i', i ≤ i' → i' < j → okD O A B E H r i') ∧ h_Mo_badDepth_78 n 174 (nI i) N = some (nI j, N)) ∨ ((∀ i', i ≤ i' → i' < l → okD O A B E H r i') ∧ h_Mo_badDepth_78 n 174 (nI i) N = some (-1, N))
  | 0, i, n + 1, hi, _ => by
    have : i = l := by omega
    subst this
    have h24 := hg.2.1
    refine Or.inr ⟨fun i' a b => absurd b (by omega), ?_⟩
    rw [h_Mo_badDepth_78, gi_e cl_174, ob_e, hd.1, if_pos (nI_le (Nat.le_refl _) (by omega))]
  | k + 1, i, n + 1, hi, hn => by
    have h24 := hg.2.1
    have hil : i < l := by omega
    obtain ⟨o, o1, o2, -⟩ := hg.2.2.2.1 i hil
    have ho : oN (O i) = o := by rw [o2, oN_n (by omega)]
    have hbit : ∀ d, d < 10 → (mkM N (10 * i + d) ↔ Rch O A B E H r i d) := by
      intro d hd10
      have := hm (10 * i + d) (by omega)
      rw [show (10 * i + d) / 10 = i by omega, show (10 * i + d) % 10 = d by omega] at this
      exact this
    have hok : ((∀ d', d' < 10 → mkM N (10 * i + d') → tkN o ≤ d' ∧ d' ≤ 5) ∧ cnt (fun d => bM N (10 * i + d)) 10 ≤ 1) ↔ okD O A B E H r i := by
      unfold okD
      rw [ho]
      constructor
      · intro ⟨h1, h2⟩
        refine ⟨fun d hR => h1 d (by have := (Rch_b hg hR).2; omega) ((hbit d (by have := (Rch_b hg hR).2; omega)).mpr hR), fun d1 d2 hR1 hR2 => ?_⟩
        have e1 := (Rch_b hg hR1).2
        have e2 := (Rch_b hg hR2).2
        have f1 : bM N (10 * i + d1) = true := decide_eq_true ((hbit d1 (by omega)).mpr hR1)
        have f2 : bM N (10 * i + d2) = true := decide_eq_true ((hbit d2 (by omega)).mpr hR2)
        rcases Nat.lt_trichotomy d1 d2 with h9 | h9 | h9
        · have := cnt_two (f := fun d => bM N (10 * i + d)) 10 d1 d2 h9 (by omega) f1 f2
          omega
        · exact h9
        · have := cnt_two (f := fun d => bM N (10 * i + d)) 10 d2 d1 h9 (by omega) f2 f1
          omega
      · intro ⟨h1, h2⟩
        exact ⟨fun d hd10 hb => h1 d ((hbit d hd10).mp hb), cnt_one 10 (fun x y hx hy fx fy => h2 x y ((hbit x hx).mp (bM_t fx)) ((hbit y hy).mp (bM_t fy)))⟩
    have pre : h_Mo_badDepth_78 (n + 1) 174 (nI i) N = h_Mo_badDepth_94 (h_Mo_badDepth_78 n) 100000 174 (nI i) 0 0 0 N := by
      rw [h_Mo_badDepth_78, gi_e cl_174, ob_e, hd.1, if_neg (nI_ge hil (by omega))]
    rw [pre]
    rcases m_row (k78 := h_Mo_badDepth_78 n) hc (show i < 24 by omega) o1 (((hd.2.2.1 i hil).1).trans o2) 10 0 100000 0 (by omega) (by omega) (Or.inl ⟨rfl, fun d' h => absurd h (Nat.not_lt_zero _)⟩) with ⟨w1, w2⟩ | ⟨w1, w2⟩
    · have w1' : h_Mo_badDepth_94 (h_Mo_badDepth_78 n) 100000 174 (nI i) 0 0 0 N = _ := w1
      rw [w1']
      rcases m_ver hg hd hc hm k (i + 1) n (by omega) (by omega) with ⟨j, j1, j2, j3, j4, j5⟩ | ⟨j1, j2⟩
      · refine Or.inl ⟨j, by omega, j2, j3, fun i' a b => ?_, j5⟩
        by_cases h9 : i' = i
        · rw [h9]; exact hok.mp w2
        · exact j4 i' (by omega) b
      · refine Or.inr ⟨fun i' a b => ?_, j2⟩
        by_cases h9 : i' = i
        · rw [h9]; exact hok.mp w2
        · exact j1 i' (by omega) b
    · have w1' : h_Mo_badDepth_94 (h_Mo_badDepth_78 n) 100000 174 (nI i) 0 0 0 N = _ := w1
      rw [w1']
      exact Or.inl ⟨i, Nat.le_refl _, hil, fun h9 => w2 (hok.mpr h9), fun i' a b => absurd b (by omega), rfl⟩
theorem m_fill : ∀ (k i n : Nat) (N : fm_M), i + k = 250 → k < n → (∀ y, y < i → N.1 191 y = 0) → ∃ N', h_Mo_badDepth_2 n 174 (nI i) N = h_Mo_badDepth_31 100000 174 1 (fm_sI N' 191 0 1) ∧ N'.2 = N.2 ∧ (∀ q, q ≠ 191 → N'.1 q = N.1 q) ∧ ∀ y, y < 250 → N'.1 191 y = 0
  | 0, i, n + 1, N, hi, _, h => by
    have : i = 250 := by omega
    subst this
    refine ⟨N, ?_, rfl, fun _ _ => rfl, h⟩
    rw [h_Mo_badDepth_2, if_pos (by decide), gr_174_24, ob_e, show sz 191 0 1 N = some (fm_sI N 191 0 1) from sz_n (k := 0) an_191 (by decide) (by decide), ob_e]
  | k + 1, i, n + 1, N, hi, hn, h => by
    obtain ⟨N', g1, g2, g3, g4⟩ := m_fill k (i + 1) n (fm_sI N 191 i 0) (by omega) (by omega) (fun y hy => by
      rw [sI_r]
      by_cases hyi : y = i
      · rw [if_pos ⟨rfl, hyi⟩]
      · rw [if_neg (fun h => hyi h.2)]; exact h y (by omega))
    refine ⟨N', ?_, g2, fun q hq => (g3 q hq).trans (row_ne hq), g4⟩
    rw [h_Mo_badDepth_2, if_neg (show ¬ 250 ≤ nI i from nI_ge (b := 250) (by omega) (by decide)), gr_174_24, ob_e, sz_n an_191 (by omega) (by decide), ob_e, nI_1]
    exact g1
/-- the reference's whole look at the depths -/
theorem m_depth (hg : gd O A B E H l r) (hd : dm N O A B E H l r) : ∃ N', ((∃ j, j < l ∧ ¬ okD O A B E H r j ∧ (∀ i, i < j → okD O A B E H r i) ∧ f_Mo_badDepth 174 N = some (nI j, N')) ∨ ((∀ i, i < l → okD O A B E H r i) ∧ f_Mo_badDepth 174 N = some (-1, N'))) ∧ N'.2 = N.2 ∧ ∀ q, q ≠ 191 → N'.1 q = N.1 q := by
  obtain ⟨N0, g1, g2, g3, g4⟩ := m_fill 250 0 100000 N (by omega) (by omega) (fun y hy => absurd hy (Nat.not_lt_zero _))
  have r1 : ∀ y, (fm_sI N0 191 0 1).1 191 y = if y = 0 then 1 else N0.1 191 y := fun y => by rw [sI_r]; simp
  have r2 : ∀ q, q ≠ 191 → (fm_sI N0 191 0 1).1 q = N.1 q := fun q hq => (row_ne hq).trans (g3 q hq)
  have hd0 := dm_k hd r2
  have hmi : MI (fm_sI N0 191 0 1) := fun y hy => by
    rw [r1]
    by_cases hy0 : y = 0
    · rw [if_pos hy0]; exact Or.inr rfl
    · rw [if_neg hy0]; exact Or.inl (g4 y hy)
  obtain ⟨N1, q1, q2, q3, q4, q5⟩ := m_while hg 250 99998 (fm_sI N0 191 0 1) (by omega) (by omega) hd0 hmi (fun y hy hm => by
    unfold mkM at hm
    rw [r1] at hm
    by_cases hy0 : y = 0
    · rw [hy0]; exact Rch_0
    · rw [if_neg hy0, g4 y hy] at hm
      exact absurd hm (by decide)) (by unfold mkM; rw [r1, if_pos rfl])
  have pre : f_Mo_badDepth 174 N = h_Mo_badDepth_78 100000 174 0 N1 := by
    unfold f_Mo_badDepth
    have g1' : h_Mo_badDepth_2 100000 174 0 N = _ := g1
    rw [g1']
    exact q1
  refine ⟨N1, ?_, by rw [q4]; exact g2, fun q hq => (q5 q hq).trans (r2 q hq)⟩
  rw [pre]
  rcases m_ver hg (dm_k hd0 q5) q2 q3 l 0 100000 (by omega) (by have := hg.2.1; omega) with ⟨j, j1, j2, j3, j4, j5⟩ | ⟨j1, j2⟩
  · exact Or.inl ⟨j, j2, j3, fun i hi => j4 i (by omega) hi, j5⟩
  · exact Or.inr ⟨fun i hi => j1 i (by omega) hi, j2⟩
end MD
