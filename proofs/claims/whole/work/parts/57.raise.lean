/-! threads: what stays, what a thrown number does -/
def kC (t : Nat) (M M' : fm_M) : Prop := M'.2 = M.2 ∧ ∀ q, ¬ (114 + 17 * t ≤ q ∧ q ≤ 130 + 17 * t) → M'.1 q = M.1 q
def kM (t : Nat) (M M' : fm_M) : Prop := M'.2 = M.2 ∧ (∀ q, ¬ (192 ≤ q ∧ q ≤ 199) → M'.1 q = M.1 q) ∧ (∀ q, 192 ≤ q → q ≤ 194 → ∀ j, j ≠ t → M'.1 q j = M.1 q j) ∧ (∀ q, 195 ≤ q → q ≤ 197 → ∀ j, ¬ (5 * t ≤ j ∧ j < 5 * t + 5) → M'.1 q j = M.1 q j) ∧ (∀ j, ¬ (20 * t ≤ j ∧ j < 20 * t + 20) → M'.1 198 j = M.1 198 j) ∧ ∀ j, ¬ (30 * t ≤ j ∧ j < 30 * t + 30) → M'.1 199 j = M.1 199 j
def Lo (Mc Mm : fm_M) (n : Nat) (Ps : Nat → Nat → Nat → Prop) (t a : Nat) : Prop := ∀ f, f < a → ∃ p d u, FR Mc Mm t f p (p + 1) d u ∧ u < n ∧ Ps u p (d + 1) ∧ Mc.1 (35 + 15 * u) p = 13
def Up (Mc Mm : fm_M) (n : Nat) (Ps : Nat → Nat → Nat → Prop) (t a : Nat) : Prop := ∀ f, f < a → ∃ p d u, FR Mc Mm t f p (p + 1) d u ∧ u < n ∧ (∃ d', Ps u p d') ∧ (f + 1 < a → Ps u p (d + 1) ∧ Mc.1 (35 + 15 * u) p = 13)
section THREAD
variable {n k s h t f a u p d r wl : Nat} {M M1 M2 Mc Mm Mc' Mm' : fm_M} {L S : Nat → Int32} {Ps : Nat → Nat → Nat → Prop}
theorem kC_r : kC t M M := ⟨rfl, fun _ _ => rfl⟩
theorem kC_t (h1 : kC t M M1) (h2 : kC t M1 M2) : kC t M M2 := ⟨h2.1.trans h1.1, fun q hq => (h2.2 q hq).trans (h1.2 q hq)⟩
theorem kM_r : kM t M M := ⟨rfl, fun _ _ => rfl, fun _ _ _ _ _ => rfl, fun _ _ _ _ _ => rfl, fun _ _ => rfl, fun _ _ => rfl⟩
theorem kM_t (h1 : kM t M M1) (h2 : kM t M1 M2) : kM t M M2 := by
  obtain ⟨a1, a2, a3, a4, a5, a6⟩ := h1
  obtain ⟨b1, b2, b3, b4, b5, b6⟩ := h2
  exact ⟨b1.trans a1, fun q hq => (b2 q hq).trans (a2 q hq), fun q x y j hj => (b3 q x y j hj).trans (a3 q x y j hj), fun q x y j hj => (b4 q x y j hj).trans (a4 q x y j hj), fun j hj => (b5 j hj).trans (a5 j hj), fun j hj => (b6 j hj).trans (a6 j hj)⟩
theorem kC_F (hf : f < 5) (h : kF t f M M1) : kC t M M1 := ⟨h.1, fun q hq => h.2 q (by omega)⟩
theorem kM_G (hf : f < 5) (h : kG t f M M1) : kM t M M1 := by
  obtain ⟨a1, a2, a3, a4, a5⟩ := h
  refine ⟨a1, fun q hq => a2 q (by omega), fun q x y j hj => by rw [a2 q (by omega)], fun q x y j hj => ?_, fun j hj => a4 j (by omega), fun j hj => a5 j (by omega)⟩
  rcases (show q = 195 ∨ q = 196 ∨ q = 197 by omega) with h9 | h9 | h9 <;> subst h9
  · rw [a2 195 (by omega)]
  · exact (a3 j (by omega)).1
  · exact (a3 j (by omega)).2
theorem kC_w {j : Nat} {v : Int32} : kC t M (fm_sI M (114 + 17 * t) j v) := ⟨rfl, fun q hq => row_ne (by omega)⟩
theorem kM_w {q : Nat} {v : Int32} (hq : 192 ≤ q) (hq' : q ≤ 194) : kM t M (fm_sI M q t v) := ⟨rfl, fun z hz => row_ne (by omega), fun z x y j hj => by rw [sI_r, if_neg (by omega)], fun z x y j hj => by rw [sI_r, if_neg (by omega)], fun j hj => by rw [sI_r, if_neg (by omega)], fun j hj => by rw [sI_r, if_neg (by omega)]⟩
/-- a method that isn't the one at work stays -/
theorem FR_k {f' p' pm d' u' : Nat} (h : FR Mc Mm t f' p' pm d' u') (hne : f' ≠ f) (hc : kF t f Mc Mc') (hm : kG t f Mm Mm') : FR Mc' Mm' t f' p' pm d' u' := by
  obtain ⟨m1, m2, m3, m4, m5⟩ := hm
  have hd : d' ≤ 5 := h.2.2.2.2.2.2.2.2
  exact FR_c h (hc.2 _ (by omega)) (hc.2 _ (by omega)) (hc.2 _ (by omega)) (by rw [m2 195 (by omega)]) (m3 _ (by omega)).1 (m3 _ (by omega)).2 (fun j hj => m4 _ (by omega)) (fun j hj => m5 _ (by omega))
theorem Lo_k (h : Lo Mc Mm n Ps t a) (haf : a ≤ f) (hn : n ≤ 6) (hc : kF t f Mc Mc') (hm : kG t f Mm Mm') : Lo Mc' Mm' n Ps t a := by
  intro f' hf'
  obtain ⟨p, d, u, h1, h2, h3, h4⟩ := h f' hf'
  exact ⟨p, d, u, FR_k h1 (by omega) hc hm, h2, h3, by rw [hc.2 _ (by omega)]; exact h4⟩
/-- writes to the thread's own numbers leave its methods -/
def kT (t : Nat) (Mc Mm Mc' Mm' : fm_M) : Prop := (∀ q, q ≠ 114 + 17 * t → Mc'.1 q = Mc.1 q) ∧ ∀ q, ¬ (192 ≤ q ∧ q ≤ 194) → Mm'.1 q = Mm.1 q
theorem FR_w {f' p' pm d' u' : Nat} (h : FR Mc Mm t f' p' pm d' u') (hk : kT t Mc Mm Mc' Mm') : FR Mc' Mm' t f' p' pm d' u' :=
  FR_c h (hk.1 _ (by omega)) (hk.1 _ (by omega)) (hk.1 _ (by omega)) (by rw [hk.2 195 (by omega)]) (by rw [hk.2 196 (by omega)]) (by rw [hk.2 197 (by omega)]) (fun j hj => by rw [hk.2 198 (by omega)]) (fun j hj => by rw [hk.2 199 (by omega)])
theorem Lo_w (h : Lo Mc Mm n Ps t a) (hn : n ≤ 6) (ht : t < 3) (hk : kT t Mc Mm Mc' Mm') : Lo Mc' Mm' n Ps t a := by
  intro f' hf'
  obtain ⟨p, d, u, h1, h2, h3, h4⟩ := h f' hf'
  exact ⟨p, d, u, FR_w h1 hk, h2, h3, by rw [hk.1 _ (by omega)]; exact h4⟩
theorem SR_split (h : SR Mc Mm n Ps t) (ha : Mc.1 (114 + 17 * t) 2 = nI (f + 1)) (hf : f < 5) : Mc.1 (114 + 17 * t) 1 = nI t ∧ Mm.1 192 t = nI (f + 1) ∧ Mm.1 193 t = 1 ∧ Mc.1 0 9 = 1 ∧ Lo Mc Mm n Ps t f ∧ ∃ p d u, FR Mc Mm t f p p d u ∧ u < n ∧ Ps u p d := by
  obtain ⟨h1, a, h2, h3, h4, h5, h6, h7⟩ := h
  have : a = f + 1 := (nI_eq (by omega) (by omega)).mp (h3.symm.trans ha)
  subst this
  refine ⟨h1, h4, (h6 (by omega)).1, (h6 (by omega)).2, fun f' hf' => ?_, ?_⟩
  · obtain ⟨p, d, u, g1, g2, g3⟩ := h7 f' (by omega)
    rw [if_neg (by omega)] at g1
    rcases g3 with ⟨g4, -⟩ | ⟨-, g5, g6⟩
    · omega
    · exact ⟨p, d, u, g1, g2, g5, g6⟩
  · obtain ⟨p, d, u, g1, g2, g3⟩ := h7 f (by omega)
    rw [if_pos ⟨rfl, rfl⟩] at g1
    rcases g3 with ⟨-, g4⟩ | ⟨g4, -⟩
    · exact ⟨p, d, u, g1, g2, g4⟩
    · exact absurd rfl g4
theorem SR_mk (hf : f < 5) (h1 : Mc.1 (114 + 17 * t) 1 = nI t) (h2 : Mc.1 (114 + 17 * t) 2 = nI (f + 1)) (h3 : Mm.1 192 t = nI (f + 1)) (h4 : Mm.1 193 t = 1) (h5 : Mc.1 0 9 = 1) (h6 : Lo Mc Mm n Ps t f) (h7 : FR Mc Mm t f p p d u) (h8 : u < n) (h9 : Ps u p d) : SR Mc Mm n Ps t := by
  refine ⟨h1, f + 1, by omega, h2, h3, fun h => absurd h (by omega), fun _ => ⟨h4, h5⟩, fun f' hf' => ?_⟩
  by_cases hff : f' = f
  · subst hff
    exact ⟨p, d, u, by rw [if_pos ⟨rfl, rfl⟩]; exact h7, h8, Or.inl ⟨rfl, h9⟩⟩
  · obtain ⟨p, d, u, g1, g2, g3, g4⟩ := h6 f' (by omega)
    exact ⟨p, d, u, by rw [if_neg (by omega)]; exact g1, g2, Or.inr ⟨by omega, g3, g4⟩⟩
/-- all but one thread's numbers are as they were -/
theorem Rx_t (ht : t < 3) (hx : Rx n k s h Ps Mc Mm) (hc : kC t Mc Mc') (hm : kM t Mm Mm') (hs : SR Mc' Mm' n Ps t) : Rx n k s h Ps Mc' Mm' := by
  obtain ⟨xa, xb, xc, xd, xe, xf, xg, xh, xi⟩ := hx
  obtain ⟨c0, c1⟩ := hc
  obtain ⟨m0', m1, m2, m3, m4, m5⟩ := hm
  have c2 : ∀ q, q < 114 → Mc'.1 q = Mc.1 q := fun q hq => c1 q (by omega)
  have c3 : ∀ q, 165 ≤ q → Mc'.1 q = Mc.1 q := fun q hq => c1 q (by omega)
  have m7 : ∀ q, q < 192 → Mm'.1 q = Mm.1 q := fun q hq => m1 q (by omega)
  have m8 : ∀ q, 200 ≤ q → Mm'.1 q = Mm.1 q := fun q hq => m1 q (by omega)
  have m9 : ∀ z, Mm'.1 174 z = Mm.1 174 z := fun z => by rw [m7 174 (by decide)]
  refine ⟨RA_c xa (c2 0 (by decide)) (fun j _ _ => m9 j), RB_c xb (c2 2 (by decide)) (c2 3 (by decide)) (m9 1) (m7 175 (by decide)) (m7 176 (by decide)), RC_c xc (fun q a b => c3 q a) (m9 4) (m9 7) (fun q a b => m7 q (by omega)), RD_c xd xa.1 (fun q a b => c2 q (by omega)) (fun q a b => m7 q (by omega)), RX_c xe (fun m hm => by rw [c2 (24 + 15 * m) (by omega)]) (m7 180 (by decide)), RE_c xf (by rw [c2 0 (by decide)]) (c2 7 (by decide)) (fun q a b => ⟨c2 q (by omega), by rw [c0], by rw [c0]⟩) (m9 23) (m9 42) (m9 44) (fun q a b => ⟨m8 q (by omega), by rw [m0'], by rw [m0']⟩), RF_c xg (c2 5 (by decide)) (c2 6 (by decide)) (m9 35) (m8 200 (by decide)), RG_c xh (c2 1 (by decide)) (m9 33) (m9 34), fun u hu => ?_⟩
  by_cases hut : u = t
  · subst hut; exact hs
  · exact SR_o (t := t) (xi u hu) xa.1 hu hut (by rw [c2 0 (by decide)]) (fun m hm => c2 _ (by omega)) (fun q a b c => c1 q c) m2 m3 m4 m5
/-- the handler, on both sides -/
theorem e_hand_l (hu : u < 6) (hr : Mc.1 (31 + 15 * u) 6 = nI r) (hmr : Mm.1 184 u = nI r) (hr2 : r ≤ 2) (hR : ∀ i, i < r → Mc.1 (31 + 15 * u + 1) i = Mm.1 189 (6 * u + 3 * i) ∧ Mc.1 (31 + 15 * u + 2) i = Mm.1 189 (6 * u + 3 * i + 1) ∧ Mc.1 (31 + 15 * u + 3) i = Mm.1 189 (6 * u + 3 * i + 2)) : ∀ (k i n1 n2 : Nat), i + k = r → k < n1 → k < n2 → ∃ hv, h_Code_handlerFor_2 n1 (31 + 15 * u) (nI p) (nI i) Mc = some (hv, Mc) ∧ h_Mo_handler_2 n2 174 (nI u) (nI p) (nI i) Mm = some (hv, Mm) ∧ (hv = -1 ∨ ∃ i, i < r ∧ Mc.1 (31 + 15 * u + 1) i ≤ nI p ∧ nI p < Mc.1 (31 + 15 * u + 2) i ∧ hv = Mc.1 (31 + 15 * u + 3) i)
  | 0, i, n1 + 1, n2 + 1, hi, _, _ => by
    have : i = r := by omega
    subst this
    refine ⟨-1, ?_, ?_, Or.inl rfl⟩
    · rw [h_Code_handlerFor_2, gi_e (cd_w u hu).1, ob_e, hr, if_pos (nI_le (Nat.le_refl _) (by omega))]
    · rw [h_Mo_handler_2, gr_174_16, ob_e, ai_n an_184 hu (by decide), ob_e, hmr, if_pos (nI_le (Nat.le_refl _) (by omega))]
  | k + 1, i, n1 + 1, n2 + 1, hi, h1, h2 => by
    have hir : i < r := by omega
    obtain ⟨r1, r2, r3⟩ := hR i hir
    have hK : ((6 : Int32) * nI u) + ((3 : Int32) * nI i) = nI (6 * u + 3 * i) := by rw [show (6 : Int32) * nI u = nI (6 * u) from nI_mul 6 u, show (3 : Int32) * nI i = nI (3 * i) from nI_mul 3 i, nI_add]
    obtain ⟨hv, g1, g2, g3⟩ := e_hand_l hu hr hmr hr2 hR k (i + 1) n1 n2 (by omega) (by omega) (by omega)
    by_cases hb : Mc.1 (31 + 15 * u + 1) i ≤ nI p ∧ nI p < Mc.1 (31 + 15 * u + 2) i
    · refine ⟨Mc.1 (31 + 15 * u + 3) i, ?_, ?_, Or.inr ⟨i, hir, hb.1, hb.2, rfl⟩⟩
      · rw [h_Code_handlerFor_2, gi_e (cd_w u hu).1, ob_e, hr, if_neg (nI_ge hir (by omega)), ck_e (cd_w u hu).1, ob_e, e_cov (cd_w u hu) hr hr2 hir, if_pos hb, bd_e, if_neg (by decide), (cd_w u hu).2.2.2.2.2.1, ob_e, ai_n (cd_w u hu).2.2.2.2.2.2.2.2.2.2.1 (by omega) (by decide), ob_e]
      · have hb1 : ¬ nI p < Mm.1 189 (6 * u + 3 * i) := by
          rw [← r1, Int32.lt_iff_toInt_lt]
          have := Int32.le_iff_toInt_le.mp hb.1
          omega
        have hb2 : ¬ Mm.1 189 (6 * u + 3 * i + 1) ≤ nI p := by
          rw [← r2, Int32.le_iff_toInt_le]
          have := Int32.lt_iff_toInt_lt.mp hb.2
          omega
        rw [h_Mo_handler_2, gr_174_16, ob_e, ai_n an_184 hu (by decide), ob_e, hmr, if_neg (nI_ge hir (by omega)), gr_174_21, ob_e, hK, ai_n an_189 (by omega) (by decide), ob_e, if_neg hb1, ob_e, nI_1, ai_n an_189 (by omega) (by decide), ob_e, if_neg hb2, ob_e, show nI (6 * u + 3 * i) + 2 = nI (6 * u + 3 * i + 2) from nI_add _ 2, ai_n an_189 (by omega) (by decide), ob_e, ← r3]
    · refine ⟨hv, ?_, ?_, g3⟩
      · rw [h_Code_handlerFor_2, gi_e (cd_w u hu).1, ob_e, hr, if_neg (nI_ge hir (by omega)), ck_e (cd_w u hu).1, ob_e, e_cov (cd_w u hu) hr hr2 hir, if_neg hb, bd_e, if_pos rfl, nI_1]
        exact g1
      · rw [h_Mo_handler_2, gr_174_16, ob_e, ai_n an_184 hu (by decide), ob_e, hmr, if_neg (nI_ge hir (by omega)), gr_174_21, ob_e, hK, ai_n an_189 (by omega) (by decide), ob_e]
        unfold j_Mo_handler_56
        by_cases hb1 : nI p < Mm.1 189 (6 * u + 3 * i)
        · rw [if_pos hb1, nI_1]
          exact g2
        · have hb2 : Mm.1 189 (6 * u + 3 * i + 1) ≤ nI p := by
            rw [← r1, Int32.lt_iff_toInt_lt] at hb1
            rw [← r2, Int32.le_iff_toInt_le]
            rw [Int32.le_iff_toInt_le, Int32.lt_iff_toInt_lt] at hb
            omega
          rw [if_neg hb1, ob_e, nI_1, ai_n an_189 (by omega) (by decide), ob_e, if_pos hb2, nI_1]
          exact g2
theorem oN_n {x : Nat} (h : x < 1000) : oN (nI x) = x := tn (by omega)
/-- what a woven method is -/
def Wm (k s u : Nat) (Mc Mm : fm_M) (P : Nat → Nat → Prop) (wl r : Nat) : Prop := wl ≤ 28 ∧ r ≤ 2 ∧ CR Mc Mm (31 + 15 * u) (Mm.1 186 u) (Mm.1 184 u) 187 188 189 (28 * u) (6 * u) wl r ∧ WQ Mc (31 + 15 * u) wl r k u s P
theorem Wm_of (hd : RD n k s Mc Mm Ps) (hu : u < n) : ∃ wl r, Wm k s u Mc Mm (Ps u) wl r := by
  obtain ⟨l, r, wl, -, h2, h3, -, h4, -, h5, -⟩ := hd u hu
  exact ⟨wl, r, h3, h2, h4, h5⟩
theorem e_hand (hu : u < 6) (hw : Wm k s u Mc Mm (Ps u) wl r) (hp : ∃ d', Ps u p d') : ∃ hv, f_Code_handlerFor (31 + 15 * u) (nI p) Mc = some (hv, Mc) ∧ f_Mo_handler 174 (nI u) (nI p) Mm = some (hv, Mm) ∧ (hv = -1 ∨ ∃ x, x < 28 ∧ hv = nI x ∧ Ps u x 1) := by
  obtain ⟨w1, w2, w3, w4⟩ := hw
  obtain ⟨c1, c2, c3, c4, c5, c6⟩ := w3
  obtain ⟨hv, g1, g2, g3⟩ := e_hand_l (p := p) hu c3 c4 w2 c6 r 0 100000 100000 (by omega) (by omega) (by omega)
  refine ⟨hv, g1, g2, ?_⟩
  rcases g3 with g3 | ⟨i, i1, i2, i3, i4⟩
  · exact Or.inl g3
  · obtain ⟨d', hd'⟩ := hp
    obtain ⟨b, e, y, y1, y2, y3, y4, y5, y6⟩ := w4.2.2.1 i i1
    have hfl := w4.2.2.2.2.2 p d' hd'
    have hpl := hfl.1
    rw [y1, Int32.le_iff_toInt_le, nt (by omega), nt (by omega)] at i2
    rw [y2, Int32.lt_iff_toInt_lt, nt (by omega), nt (by omega)] at i3
    have := hfl.2.2.2.2.2.2 i i1 (by rw [y1, oN_n (by omega)]; omega) (by rw [y2, oN_n (by omega)]; omega)
    rw [y3, oN_n (by omega)] at this
    exact Or.inr ⟨y, by omega, i4.trans y3, this⟩
theorem c_catch {x : Nat} {v : Int32} (ht : t < 3) (hf : f < 5) (h : cF M t f u p d L S) : ∃ M', f_Frame_catchAt (116 + 17 * t + 3 * f) (nI x) v M = some M' ∧ kF t f M M' ∧ cF M' t f u x 1 L (up S 0 v) := by
  have h0 : cF (fm_sI M (116 + 17 * t + 3 * f) 4 0) t f u p 0 L S := by
    obtain ⟨a1, a2, a3, a4, a5, a6⟩ := h
    refine ⟨?_, ?_, ?_, fun j hj => ?_, fun j hj => absurd hj (Nat.not_lt_zero _), by omega⟩
    · rw [sI_r, if_neg (by omega)]; exact a1
    · rw [sI_r, if_neg (by omega)]; exact a2
    · rw [sI_r, if_pos ⟨rfl, rfl⟩]; rfl
    · rw [sI_r, if_neg (by omega)]; exact a4 j hj
  obtain ⟨M1, a1, a2, a3⟩ := c_push (v := v) ht hf h0 (by decide)
  obtain ⟨M2, b1, b2, b3⟩ := c_at (p' := x) ht hf a3
  refine ⟨M2, ?_, kF_t (kF_t (kF_w (Or.inl rfl)) a2) b2, b3⟩
  unfold f_Frame_catchAt
  rw [pi_e (cl_f t ht f hf), ob_e, ck_e (cl_f t ht f hf), ob_e, a1, ob_e, b1, ob_e]
theorem m_zero (hf : f < 5) (h : mF M t f u p d L S) : mF (fm_sI M 197 (5 * t + f) 0) t f u p 0 L S := by
  obtain ⟨a1, a2, a3, a4, a5, a6⟩ := h
  refine ⟨?_, ?_, ?_, fun j hj => ?_, fun j hj => absurd hj (Nat.not_lt_zero _), by omega⟩
  · rw [sI_r, if_neg (by omega)]; exact a1
  · rw [sI_r, if_neg (by omega)]; exact a2
  · rw [sI_r, if_pos ⟨rfl, rfl⟩]; rfl
  · rw [sI_r, if_neg (by omega)]; exact a4 j hj
theorem e_raise {v : Int32} (ht : t < 3) (hn : n ≤ 6) : ∀ (a n1 n2 : Nat) (Mc Mm : fm_M), a ≤ 5 → a < n1 → a < n2 → RD n k s Mc Mm Ps → Mc.1 (114 + 17 * t) 2 = nI a → Mm.1 192 t = nI a → Mc.1 (114 + 17 * t) 1 = nI t → Mc.1 0 9 = 1 → Mm.1 193 t = 1 → Up Mc Mm n Ps t a → ∃ Mc' Mm', h_Machine_raise_5 n1 1 (114 + 17 * t) v (nI a) Mc = some Mc' ∧ h_Mo_raise_0 n2 174 (nI t) v Mm = some Mm' ∧ kC t Mc Mc' ∧ kM t Mm Mm' ∧ SR Mc' Mm' n Ps t
  | 0, n1 + 1, n2 + 1, Mc, Mm, _, _, _, hd, ha, hm, h1, h9, h3, hU => by
    refine ⟨fm_sI (fm_sI Mc (114 + 17 * t) 3 3) (114 + 17 * t) 4 v, fm_sI (fm_sI Mm 193 t 3) 194 t v, ?_, ?_, kC_t kC_w kC_w, kM_t (kM_w (by decide) (by decide)) (kM_w (by decide) (by decide)), ?_, 0, by decide, ?_, ?_, fun _ => ⟨?_, ?_, Or.inr (Or.inr ?_)⟩, fun h => absurd h (Nat.not_lt_zero _), fun f hf => absurd hf (Nat.not_lt_zero _)⟩
    · rw [h_Machine_raise_5, if_pos (by decide), ck_e (cl_t t ht), ob_e]
      unfold f_Strand_end
      rw [pi_e (cl_t t ht), ob_e, pi_e (cl_t t ht), ob_e, ob_e]
    · rw [h_Mo_raise_0, gr_174_25, ob_e, ai_n an_192 ht (by decide), ob_e, hm, if_pos (by decide), gr_174_26, ob_e, si_n an_193 ht (by decide), ob_e, gr_174_27, ob_e, si_n an_194 ht (by decide), ob_e]
    · rw [sI_r, if_neg (by omega), sI_r, if_neg (by omega)]; exact h1
    · rw [sI_r, if_neg (by omega), sI_r, if_neg (by omega)]; exact ha
    · rw [sI_r, if_neg (by omega), sI_r, if_neg (by omega)]; exact hm
    · rw [sI_r, if_neg (by omega), sI_r, if_pos ⟨rfl, rfl⟩, sI_r, if_neg (by omega), sI_r, if_pos ⟨rfl, rfl⟩]
    · rw [sI_r, if_pos ⟨rfl, rfl⟩, sI_r, if_pos ⟨rfl, rfl⟩]
    · rw [sI_r, if_neg (by omega), sI_r, if_pos ⟨rfl, rfl⟩]
  | a + 1, n1 + 1, n2 + 1, Mc, Mm, h5, g1, g2, hd, ha, hm, h1, h9, h3, hU => by
    have ha5 : a < 5 := by omega
    have hF : (((5 : Int32) * nI t) + nI (a + 1)) - 1 = nI (5 * t + a) := by rw [show (5 : Int32) * nI t = nI (5 * t) from nI_mul 5 t, nI_add, show 5 * t + (a + 1) = 5 * t + a + 1 from rfl, nI_pred]
    obtain ⟨p, d, u, f1, f2, f3, f4⟩ := hU a (by omega)
    have hu : u < 6 := by omega
    obtain ⟨wl, r, hw⟩ := Wm_of hd f2
    obtain ⟨hv, e1, e2, e3⟩ := e_hand hu hw f3
    obtain ⟨L, S, c, m⟩ := FR_s f1
    rcases e3 with e3 | ⟨x, x1, x2, x3⟩
    · have hc : ∀ q, q ≠ 114 + 17 * t → (fm_sI Mc (114 + 17 * t) 2 (nI a)).1 q = Mc.1 q := fun q hq => row_ne hq
      have hmm : ∀ q, q ≠ 192 → (fm_sI Mm 192 t (nI a)).1 q = Mm.1 q := fun q hq => row_ne hq
      have hk : kT t Mc Mm (fm_sI Mc (114 + 17 * t) 2 (nI a)) (fm_sI Mm 192 t (nI a)) := ⟨hc, fun q hq => hmm q (by omega)⟩
      obtain ⟨Mc', Mm', i1, i2, i3, i4, i5⟩ := e_raise (v := v) ht hn a n1 n2 (fm_sI Mc (114 + 17 * t) 2 (nI a)) (fm_sI Mm 192 t (nI a)) (by omega) (by omega) (by omega) (RD_c hd hn (fun q a b => hc q (by omega)) (fun q a b => hmm q (by omega))) (by rw [sI_r, if_pos ⟨rfl, rfl⟩]) (by rw [sI_r, if_pos ⟨rfl, rfl⟩]) (by rw [sI_r, if_neg (by omega)]; exact h1) (by rw [hc 0 (by omega)]; exact h9) (by rw [hmm 193 (by decide)]; exact h3) (fun f hf => by
        obtain ⟨p', d', u', k1, k2, k3, k4⟩ := hU f (by omega)
        refine ⟨p', d', u', FR_w k1 hk, k2, k3, fun _ => ?_⟩
        rw [hc _ (by omega)]
        exact k4 (by omega))
      refine ⟨Mc', Mm', ?_, ?_, kC_t kC_w i3, kM_t (kM_w (by decide) (by decide)) i4, i5⟩
      · rw [h_Machine_raise_5, if_neg (nI_nle (by omega) (by omega)), ck_e (cl_t t ht), ob_e, e_top ht ha5 ha, bd_e, ck_e cl_1, ob_e, e_codeOf ht ha5 hu c.1, bd_e, gi_e (cl_f t ht a ha5), ob_e, c.2.1, ck_e (cd_w u hu).1, ob_e, e1, bd_e, if_pos e3, ob_e]
        unfold f_Strand_leave
        rw [gi_e (cl_t t ht), ob_e, ha, if_neg (nI_nle (by omega) (by omega)), ob_e, nI_pred, pi_e (cl_t t ht), ob_e, ob_e, show nI (a + 1) + (-1) = nI a by rw [← nI_pred a]; exact (Int32.sub_eq_add_neg _ _).symm]
        exact i1
      · rw [h_Mo_raise_0, gr_174_25, ob_e, ai_n an_192 ht (by decide), ob_e, hm, if_neg (nI_nle (by omega) (by omega)), ob_e, ai_n an_192 ht (by decide), ob_e, hm, gr_174_28, ob_e, hF, ai_n an_195 (by omega) (by decide), ob_e, m.1, gr_174_29, ob_e, ai_n an_196 (by omega) (by decide), ob_e, m.2.1, nI_pred, ck_e cl_174, ob_e, e2, bd_e, if_pos (show hv < 0 by rw [e3]; decide), ob_e, ai_n an_192 ht (by decide), ob_e, hm, nI_pred, si_n an_192 ht (by decide), ob_e]
        exact i2
    · obtain ⟨Mc', k1, k2, k3⟩ := c_catch (x := x) (v := v) ht ha5 c
      obtain ⟨M1, l1, l2, l3⟩ := m_push (v := v) ht ha5 (m_zero ha5 m) (by decide)
      obtain ⟨Mm', q1, q2, q3⟩ := m_at (p' := x) ht ha5 l3
      have hG : kG t a Mm Mm' := kG_t (kG_t kG_7 l2) q2
      refine ⟨Mc', Mm', ?_, ?_, kC_F ha5 k2, kM_G ha5 hG, SR_mk ha5 (by rw [k2.2 _ (by omega)]; exact h1) (by rw [k2.2 _ (by omega)]; exact ha) (by rw [hG.2.1 _ (by omega)]; exact hm) (by rw [hG.2.1 _ (by omega)]; exact h3) (by rw [k2.2 _ (by omega)]; exact h9) (Lo_k (f := a) (fun f hf => by
        obtain ⟨p', d', u', k1, k2, k3, k4⟩ := hU f (by omega)
        exact ⟨p', d', u', k1, k2, (k4 (by omega)).1, (k4 (by omega)).2⟩) (Nat.le_refl _) hn k2 hG) (FR_j k3 q3) f2 x3⟩
      · rw [h_Machine_raise_5, if_neg (nI_nle (by omega) (by omega)), ck_e (cl_t t ht), ob_e, e_top ht ha5 ha, bd_e, ck_e cl_1, ob_e, e_codeOf ht ha5 hu c.1, bd_e, gi_e (cl_f t ht a ha5), ob_e, c.2.1, ck_e (cd_w u hu).1, ob_e, e1, bd_e, if_neg (show ¬ hv = -1 by rw [x2]; intro h; have := congrArg Int32.toInt h; rw [nt (by omega)] at this; exact absurd this (by show ¬ (x : Int) = -1; omega)), ck_e (cl_f t ht a ha5), ob_e, x2, k1, ob_e]
      · rw [h_Mo_raise_0, gr_174_25, ob_e, ai_n an_192 ht (by decide), ob_e, hm, if_neg (nI_nle (by omega) (by omega)), ob_e, ai_n an_192 ht (by decide), ob_e, hm, gr_174_28, ob_e, hF, ai_n an_195 (by omega) (by decide), ob_e, m.1, gr_174_29, ob_e, ai_n an_196 (by omega) (by decide), ob_e, m.2.1, nI_pred, ck_e cl_174, ob_e, e2, bd_e, if_neg (show ¬ hv < 0 by rw [x2]; exact nI_pos (by omega)), gr_174_30, ob_e, si_n an_197 (by omega) (by decide), ob_e, ob_e, l1, ob_e, ob_e, x2, q1, ob_e]
end THREAD
