/-! weave -/
section PW
variable {m n k s h l r i : Nat} {Mc Mm Mc' Mm' M0 N0 : fm_M} {P : Nat → Nat → Prop} {Ps : Nat → Nat → Nat → Prop}
/-- what weaving method m leaves -/
def kW (m : Nat) (M M' : fm_M) : Prop := M'.2 = M.2 ∧ ∀ q, ¬ (31 + 15 * m ≤ q ∧ q ≤ 38 + 15 * m) → M'.1 q = M.1 q
def kV (m : Nat) (M M' : fm_M) : Prop := M'.2 = M.2 ∧ (∀ q, ¬ (q = 174 ∨ (186 ≤ q ∧ q ≤ 190)) → M'.1 q = M.1 q) ∧ (∀ z, z ≠ 23 → M'.1 174 z = M.1 174 z) ∧ (∀ z, z ≠ m → M'.1 186 z = M.1 186 z) ∧ (∀ z, ¬ (28 * m ≤ z ∧ z < 28 * m + 28) → M'.1 187 z = M.1 187 z ∧ M'.1 188 z = M.1 188 z) ∧ (∀ z, ¬ (6 * m ≤ z ∧ z < 6 * m + 6) → M'.1 189 z = M.1 189 z) ∧ ∀ z, ¬ (24 * m ≤ z ∧ z < 24 * m + 24) → M'.1 190 z = M.1 190 z
theorem WQ_r {M M' : fm_M} {q l r k n s : Nat} (h : WQ M q l r k n s P) (hk : ∀ z, q + 1 ≤ z → z ≤ q + 5 → M'.1 z = M.1 z) : WQ M' q l r k n s P := by
  unfold WQ at h ⊢
  rw [hk (q + 4) (by omega) (by omega), hk (q + 5) (by omega) (by omega), hk (q + 1) (by omega) (by omega), hk (q + 2) (by omega) (by omega), hk (q + 3) (by omega) (by omega)]
  exact h
theorem RM_o {m' s' : Nat} (h : RM m' k s Mc Mm P) (hs : s ≤ s') (hne : m' ≠ m) (hc : kW m Mc Mc') (hv : kV m Mm Mm') : RM m' k s' Mc' Mm' P := by
  obtain ⟨l, r, wl, a, b, c, d, e, ⟨P0, f⟩, g, i⟩ := h
  obtain ⟨v0, v1, v2, v3, v4, v5, v6⟩ := hv
  have hc1 : ∀ q, 25 + 15 * m' ≤ q → q ≤ 37 + 15 * m' → Mc'.1 q = Mc.1 q := fun q h1 h2 => hc.2 q (by omega)
  refine ⟨l, r, wl, a, b, c, ?_, ?_, ⟨P0, WQ_r f (fun z h1 h2 => hc1 z (by omega) (by omega))⟩, WF_s (WQ_r g (fun z h1 h2 => hc1 z (by omega) (by omega))) hs, fun j hj => ?_⟩
  · rw [v1 181 (by omega), v1 184 (by omega)]
    exact CR_c d (hc1 _ (by omega) (by omega)) (hc1 _ (by omega) (by omega)) (hc1 _ (by omega) (by omega)) (hc1 _ (by omega) (by omega)) (hc1 _ (by omega) (by omega)) (hc1 _ (by omega) (by omega)) (v1 182 (by omega)) (v1 183 (by omega)) (v1 185 (by omega))
  · obtain ⟨e1, e2, e3, e4, e5, e6⟩ := e
    refine ⟨by rw [hc1 _ (by omega) (by omega)]; exact e1, by rw [v3 m' hne]; exact e2, by rw [hc1 _ (by omega) (by omega)]; exact e3, by rw [v1 184 (by omega)]; exact e4, fun j hj => ?_, fun j hj => ?_⟩
    · rw [hc1 _ (by omega) (by omega), hc1 _ (by omega) (by omega), (v4 _ (by omega)).1, (v4 _ (by omega)).2]
      exact e5 j hj
    · rw [hc1 _ (by omega) (by omega), hc1 _ (by omega) (by omega), hc1 _ (by omega) (by omega), v5 _ (by omega), v5 _ (by omega), v5 _ (by omega)]
      exact e6 j hj
  · rw [hc1 _ (by omega) (by omega), v6 _ (by omega)]
    exact i j hj
theorem w_one (hm : m < 6) (hR : RM m k s Mc Mm P) (hx1 : Mc.1 (24 + 15 * m) 4 = Mm.1 180 m) (hs : Mm.1 174 23 = nI s) (hs100 : s ≤ 78) : ∃ s' Mc' Mm' P', f_Method_weaveFrom (24 + 15 * m) (nI s) Mc = some (nI s', Mc') ∧ f_Mo_weaveOne 174 (nI m) Mm = some Mm' ∧ s ≤ s' ∧ s' ≤ s + 13 ∧ RM m k s' Mc' Mm' P' ∧ kW m Mc Mc' ∧ kV m Mm Mm' ∧ Mm'.1 174 23 = nI s' := by
  obtain ⟨l, r, wl, a, b, c, d, e, ⟨P0, f⟩, g, i⟩ := id hR
  obtain ⟨d1, d2, d3, d4, d5, d6⟩ := id d
  obtain ⟨M1, p1, p2, p3, p4⟩ := e_find (M := Mc) (O := Mc.1 (25 + 15 * m + 4)) hm a d1 rfl
  have hOm : ∀ j, j < l → Mm.1 182 (24 * m + j) = Mc.1 (25 + 15 * m + 4) j := fun j hj => (d5 j hj).1.symm
  have hAm : ∀ j, j < l → Mm.1 183 (24 * m + j) = Mc.1 (25 + 15 * m + 5) j := fun j hj => (d5 j hj).2.symm
  have hmv := e_moved (N := Mm) (O := Mc.1 (25 + 15 * m + 4)) hm a hOm
  have hR1 : RM m k s M1 Mm P := RM_c hR (fun q h1 h2 => p3 q (by omega)) (fun _ _ _ => rfl)
  have hmle := mv_ge (O := Mc.1 (25 + 15 * m + 4)) l
  have mp : f_Mo_weaveOne 174 (nI m) Mm = if Mm.1 180 m = 0 then if nI (mv (Mc.1 (25 + 15 * m + 4)) l) ≤ 28 then h_Mo_weaveOne_30 100000 174 (nI m) (nI (mv (Mc.1 (25 + 15 * m + 4)) l)) 0 Mm else some Mm else some Mm := by
    unfold f_Mo_weaveOne
    rw [gr_174_13, ob_e, ai_n an_181 hm (by decide), ob_e, d2, ck_e cl_174, ob_e, hmv, bd_e, gr_174_12, ob_e, az_n an_180 hm (by decide), ob_e]
  have cp : f_Method_weaveFrom (24 + 15 * m) (nI s) Mc = if Mc.1 (24 + 15 * m) 4 = 0 then if nI (mv (Mc.1 (25 + 15 * m + 4)) l) ≤ 28 then h_Method_weaveFrom_40 100000 (24 + 15 * m) (nI s) 0 (fm_sI (fm_sI M1 (31 + 15 * m) 5 0) (31 + 15 * m) 6 0) else some (nI s, M1) else some (nI s, M1) := by
    unfold f_Method_weaveFrom
    rw [ck_e (cl_m m hm), ob_e, p1, ob_e, gi_e (cl_m m hm), ob_e, p3 _ (by omega), gr_m0 m hm, ob_e, gi_e (cd_o m hm).1, ob_e, p3 _ (by omega), d1, ob_e, e_place hm (by omega), bd_e, p4 l (Nat.le_refl _), gr_m1 m hm, ob_e, ck_e (cd_w m hm).1, ob_e, e_cclr (cd_w m hm), ob_e]
  by_cases hex : Mc.1 (24 + 15 * m) 4 = 0
  · by_cases h28 : mv (Mc.1 (25 + 15 * m + 4)) l ≤ 28
    · have c28 : nI (mv (Mc.1 (25 + 15 * m + 4)) l) ≤ 28 := nI_le (b := 28) h28 (by decide)
      rw [cp, mp, if_pos hex, if_pos (hx1.symm.trans hex), if_pos c28, if_pos c28]
      have fW : WF (Mc.1 (25 + 15 * m + 4)) (Mc.1 (25 + 15 * m + 5)) (Mc.1 (25 + 15 * m + 1)) (Mc.1 (25 + 15 * m + 2)) (Mc.1 (25 + 15 * m + 3)) l r k m 0 P0 := f
      have hdc := dc_of f
      have hrv := rv_of f
      have h13 := mv_13 f h28
      generalize hO : Mc.1 (25 + 15 * m + 4) = O at *
      generalize hA : Mc.1 (25 + 15 * m + 5) = A at *
      have w1 : ∀ q, q ≠ 31 + 15 * m → (fm_sI (fm_sI M1 (31 + 15 * m) 5 0) (31 + 15 * m) 6 0).1 q = M1.1 q := fun q hq => by rw [row_ne hq, row_ne hq]
      obtain ⟨M3, u1, u2, u3, u4, u5, u6, u7⟩ := c_wv_l (s0 := s) (f0 := M1.1 (37 + 15 * m)) hm a hdc h28 l 0 100000 (fm_sI (fm_sI M1 (31 + 15 * m) 5 0) (31 + 15 * m) 6 0) (by omega) (by omega) (by rw [w1 _ (by omega), p3 _ (by omega)]; exact d1) (by rw [w1 _ (by omega), p3 _ (by omega)]; exact hO) (by rw [w1 _ (by omega), p3 _ (by omega)]; exact hA) (by rw [sI_r, if_neg (by omega), sI_r, if_pos ⟨rfl, rfl⟩]; rfl) (fun j hj => by rw [w1 _ (by omega)]; exact p4 j hj) (fun j hj => absurd hj (Nat.not_lt_zero _)) (fun j hj => by rw [w1 _ (by omega), if_neg (fun h => absurd h.1 (Nat.not_lt_zero _))])
      have u9 : ∀ q, ¬ (31 + 15 * m ≤ q ∧ q ≤ 38 + 15 * m) → M3.1 q = Mc.1 q := fun q hq => by rw [u3 q (by omega), w1 q (by omega), p3 q (by omega)]
      obtain ⟨M4, t1, t2, t3, t4, t5, t6⟩ := c_rg_l (x := nI (s + (mv O l - l))) hm b a hrv r 0 100000 M3 (by omega) (by omega) (by rw [u9 _ (by omega)]; exact d3) (by rw [u9 _ (by omega)]) (by rw [u9 _ (by omega)]) (by rw [u9 _ (by omega)]) (by rw [u4 6 (by decide), sI_r, if_pos ⟨rfl, rfl⟩]; rfl) (fun j hj => by rw [u3 _ (by omega), w1 _ (by omega)]; exact p4 j hj) (fun j hj => absurd hj (Nat.not_lt_zero _))
      obtain ⟨N1, v1, v2, v3, v4, v5, v6, v7, v8, v9⟩ := m_wv_l (s0 := s) (f0 := fun j => Mm.1 190 (24 * m + j)) hm a hdc h28 (by omega) l 0 100000 Mm (by omega) (by omega) d2 hOm hAm hs (fun j hj => absurd hj (Nat.not_lt_zero _)) (fun j hj => by rw [if_neg (fun h => absurd h.1 (Nat.not_lt_zero _))])
      have x1 : ∀ q, ¬ (q = 174 ∨ (186 ≤ q ∧ q ≤ 190)) → (fm_sI N1 186 m (nI (mv O l))).1 q = Mm.1 q := fun q hq => by rw [row_ne (by omega), v3 q (by omega)]
      have hrr : ∀ z, z < 3 * r → ∃ v, v ≤ l ∧ Mm.1 185 (6 * m + z) = nI v := by
        intro z hz
        obtain ⟨b', e', h', q1, q2, q3, q4, q5, q6⟩ := hrv (z / 3) (by omega)
        obtain ⟨y1, y2, y3⟩ := d6 (z / 3) (by omega)
        rcases (show z % 3 = 0 ∨ z % 3 = 1 ∨ z % 3 = 2 by omega) with h9 | h9 | h9
        · exact ⟨b', q4, by rw [show 6 * m + z = 6 * m + 3 * (z / 3) by omega, ← y1]; exact q1⟩
        · exact ⟨e', q5, by rw [show 6 * m + z = 6 * m + 3 * (z / 3) + 1 by omega, ← y2]; exact q2⟩
        · exact ⟨h', q6, by rw [show 6 * m + z = 6 * m + 3 * (z / 3) + 2 by omega, ← y3]; exact q3⟩
      obtain ⟨N2, z1, z2, z3, z4, z5⟩ := m_rg_l (O := O) (l := l) hm b a (3 * r) 0 100000 (fm_sI N1 186 m (nI (mv O l))) (by omega) (by omega) (by rw [x1 184 (by omega)]; exact d4) (fun j hj => by rw [x1 182 (by omega)]; exact hOm j hj) (fun z hz => by rw [x1 185 (by omega)]; exact hrr z hz) (fun z hz => absurd hz (Nat.not_lt_zero _))
      rw [x1 185 (by omega)] at z5
      have kc : kW m Mc M4 := ⟨by rw [t2, u2]; exact p2, fun q hq => by rw [t3 q (by omega), u9 q hq]⟩
      have hx : ∀ q, q ≠ 189 → q ≠ 186 → N2.1 q = N1.1 q := fun q h1 h2 => by rw [z3 q h1, row_ne h2]
      have km : kV m Mm N2 := ⟨by rw [z2]; exact v2, fun q hq => by rw [z3 q (by omega), x1 q hq], fun z hz => by rw [hx 174 (by decide) (by decide), v4 z hz], fun z hz => by rw [z3 186 (by decide), sI_r, if_neg (fun h => hz h.2), v3 186 (by omega)], fun z hz => ⟨by rw [hx 187 (by decide) (by decide)]; exact (v6 z hz).1, by rw [hx 188 (by decide) (by decide)]; exact (v6 z hz).2⟩, fun z hz => by rw [z4 z hz, row_ne (by decide), v3 189 (by omega)], fun z hz => by rw [hx 190 (by decide) (by decide)]; exact v7 z hz⟩
      have W4 : M4.1 (31 + 15 * m + 4) = M3.1 (31 + 15 * m + 4) := t3 _ (by omega)
      have W5 : M4.1 (31 + 15 * m + 5) = M3.1 (31 + 15 * m + 5) := t3 _ (by omega)
      have hc25 : ∀ z, 25 + 15 * m ≤ z → z ≤ 30 + 15 * m → M4.1 z = Mc.1 z := fun z h1 h2 => kc.2 z (by omega)
      refine ⟨s + (mv O l - l), M4, N2, fun w d => ∃ i, i < l ∧ w = mv O i ∧ P0 i d, ?_, ?_, by omega, by omega, ⟨l, r, mv O l, a, b, h28, ?_, ⟨by rw [t4 5 (by decide)]; exact u5, by rw [z3 186 (by decide), sI_r, if_pos ⟨rfl, rfl⟩], t5, by rw [km.2.1 184 (by omega)]; exact d4, fun w hw => ?_, fun j hj => ?_⟩, ⟨P0, WQ_r f (fun z h1 h2 => hc25 z (by omega) (by omega))⟩, ?_, fun j hj => ?_⟩, kc, km, by rw [hx 174 (by decide) (by decide)]; exact v5⟩
      · have : h_Method_weaveFrom_40 100000 (24 + 15 * m) (nI s) 0 (fm_sI (fm_sI M1 (31 + 15 * m) 5 0) (31 + 15 * m) 6 0) = _ := u1
        rw [this]
        exact t1
      · have : h_Mo_weaveOne_30 100000 174 (nI m) (nI (mv O l)) 0 Mm = _ := v1
        rw [this]
        exact z1
      · rw [km.2.1 181 (by omega), km.2.1 184 (by omega)]
        exact CR_c d (hc25 _ (by omega) (by omega)) (hc25 _ (by omega) (by omega)) (hc25 _ (by omega) (by omega)) (hc25 _ (by omega) (by omega)) (hc25 _ (by omega) (by omega)) (hc25 _ (by omega) (by omega)) (km.2.1 182 (by omega)) (km.2.1 183 (by omega)) (km.2.1 185 (by omega))
      · rw [W4, W5, hx 187 (by decide) (by decide), hx 188 (by decide) (by decide)]
        obtain ⟨j, j1, j2⟩ := mv_cov l w hw
        obtain ⟨a1, a2, a3⟩ := u6 j j1
        obtain ⟨b1, b2, b3⟩ := v8 j j1
        have b1' : N1.1 187 (28 * m + mv O j) = O j := b1
        have b2' : N1.1 188 (28 * m + mv O j) = aw O A j := b2
        rcases j2 with j2 | ⟨j2, j3⟩
        · rw [j2, a1, a2, b1', b2']
          exact ⟨rfl, rfl⟩
        · have b4 : N1.1 187 (28 * m + (mv O j + 1)) = 16 := (b3 j2).1
          have b5 : N1.1 188 (28 * m + (mv O j + 1)) = nI (s + (mv O j - j)) := (b3 j2).2
          rw [j3, (a3 j2).1, (a3 j2).2, b4, b5]
          exact ⟨rfl, rfl⟩
      · obtain ⟨y1, y2, y3⟩ := t6 j hj
        obtain ⟨k1, k2, k3⟩ := d6 j hj
        rw [y1, y2, y3, show 6 * m + 3 * j = 6 * m + (3 * j) from rfl, z5 (3 * j) (by omega), show 6 * m + (3 * j) + 1 = 6 * m + (3 * j + 1) from rfl, z5 (3 * j + 1) (by omega), show 6 * m + (3 * j) + 2 = 6 * m + (3 * j + 2) from rfl, z5 (3 * j + 2) (by omega), k1, k2, k3]
        exact ⟨rfl, rfl, rfl⟩
      · have := WF_wv (s0 := s) (O' := M4.1 (31 + 15 * m + 4)) (A' := M4.1 (31 + 15 * m + 5)) (B' := M4.1 (31 + 15 * m + 1)) (E' := M4.1 (31 + 15 * m + 2)) (H' := M4.1 (31 + 15 * m + 3)) fW a h28 (by rw [W4, W5]; exact u6) t6
        exact this
      · obtain ⟨i1, i2⟩ := i j hj
        have s1 := u7 j (by omega)
        have s2 : N1.1 190 (24 * m + j) = if j < l ∧ (O j = 11 ∨ O j = 12) then nI (s + (mv O j - j)) else Mm.1 190 (24 * m + j) := v9 j (by omega)
        rw [t3 _ (by omega), hx 190 (by decide) (by decide), s1, s2, p3 _ (by omega)]
        by_cases hk : j < l ∧ (O j = 11 ∨ O j = 12)
        · rw [if_pos hk, if_pos hk]
          have := mv_ge (O := O) j
          exact ⟨rfl, Or.inr (by rw [nt (by omega)]; omega)⟩
        · rw [if_neg hk, if_neg hk]
          exact ⟨i1, i2⟩
    · have c28 : ¬ nI (mv (Mc.1 (25 + 15 * m + 4)) l) ≤ 28 := fun h => h28 ((nI_leI (b := 28) (by omega) (by decide)).mp h)
      rw [cp, mp, if_pos hex, if_pos (hx1.symm.trans hex), if_neg c28, if_neg c28]
      exact ⟨s, M1, Mm, P, rfl, rfl, Nat.le_refl _, by omega, hR1, ⟨p2, fun q hq => p3 q (by omega)⟩, ⟨rfl, fun _ _ => rfl, fun _ _ => rfl, fun _ _ => rfl, fun _ _ => ⟨rfl, rfl⟩, fun _ _ => rfl, fun _ _ => rfl⟩, hs⟩
  · rw [cp, mp, if_neg hex, if_neg (fun h => hex (hx1.trans h))]
    exact ⟨s, M1, Mm, P, rfl, rfl, Nat.le_refl _, by omega, hR1, ⟨p2, fun q hq => p3 q (by omega)⟩, ⟨rfl, fun _ _ => rfl, fun _ _ => rfl, fun _ _ => rfl, fun _ _ => ⟨rfl, rfl⟩, fun _ _ => rfl, fun _ _ => rfl⟩, hs⟩
def clC (M : fm_M) (s I : Nat) : fm_M := fm_sI (fillM (fm_sI (fm_sI M 7 9 (nI s)) 7 11 (nI I)) 19 3 (nI I)) 0 9 1
def clM (M : fm_M) (I : Nat) : fm_M := fm_sI (fm_sI (fm_sI (fm_sI (fm_sI M 174 42 (nI I)) 206 0 (nI I)) 206 1 (nI I)) 206 2 (nI I)) 174 11 1
theorem e_mcl {I : Nat} {N : fm_M} (hs : N.1 174 23 = nI s) : (pi 174 10 42 (nI I) N).bind (fun M113 => h_Mo_weave_76 100000 174 (nI I) 0 M113) = some (nI s, clM N I) := by
  have e1 : (clM N I).1 174 23 = nI s := by
    unfold clM
    rw [sI_r, if_neg (by omega), row_ne (by decide), row_ne (by decide), row_ne (by decide), sI_r, if_neg (by omega)]
    exact hs
  rw [pi_e cl_174, ob_e, show (0 : Int32) = nI 0 from rfl, h_Mo_weave_76, if_neg (by decide), gr_174_43, ob_e, si_n an_206 (by decide) (by decide), ob_e, nI_1, h_Mo_weave_76, if_neg (by decide), gr_174_43, ob_e, si_n an_206 (by decide) (by decide), ob_e, nI_1, h_Mo_weave_76, if_neg (by decide), gr_174_43, ob_e, si_n an_206 (by decide) (by decide), ob_e, nI_1, h_Mo_weave_76, if_pos (by decide), pi_e cl_174, ob_e, gi_e cl_174, ob_e]
  rw [show (fm_sI (fm_sI (fm_sI (fm_sI (fm_sI N 174 42 (nI I)) 206 0 (nI I)) 206 (0 + 1) (nI I)) 206 (0 + 1 + 1) (nI I)) 174 11 1) = clM N I from rfl, e1]
def frq (q : Nat) : Prop := q < 24 ∨ 114 ≤ q ∨ (q - 24) % 15 ≤ 6
/-- all methods, one behind another -/
theorem w_all {I : Nat} (hn : n ≤ 6) : ∀ (kk i n1 n2 s : Nat) (Mc Mm : fm_M) (Ps : Nat → Nat → Nat → Prop), i + kk = n → kk < n1 → kk < n2 → s ≤ 13 * i → Mc.1 0 7 = nI n → Mm.1 174 9 = nI n → Mm.1 174 23 = nI s → RX Mc Mm → RD n k s Mc Mm Ps → ∃ s' Mc' Mm' Ps', h_AP_weave_50 n1 0 (nI I) (nI s) (nI i) Mc = some (.inl (nI s'), clC Mc' s' I) ∧ h_Mo_weave_50 n2 174 (nI I) (nI i) Mm = some (nI s', clM Mm' I) ∧ s' ≤ 78 ∧ Mm'.1 174 23 = nI s' ∧ RD n k s' Mc' Mm' Ps' ∧ Mc'.2 = Mc.2 ∧ (∀ q, frq q → Mc'.1 q = Mc.1 q) ∧ Mm'.2 = Mm.2 ∧ (∀ q, ¬ (q = 174 ∨ (186 ≤ q ∧ q ≤ 190)) → Mm'.1 q = Mm.1 q) ∧ ∀ z, z ≠ 23 → Mm'.1 174 z = Mm.1 174 z
  | 0, i, n1 + 1, n2 + 1, s, Mc, Mm, Ps, hi, _, _, hs, h7, h9, h23, hX, hD => by
    have : i = n := by omega
    subst this
    refine ⟨s, Mc, Mm, Ps, ?_, ?_, by omega, h23, hD, rfl, fun _ _ => rfl, rfl, fun _ _ => rfl, fun _ _ => rfl⟩
    · rw [h_AP_weave_50, gi_e cl_0, ob_e, h7, if_pos (nI_le (Nat.le_refl _) (by omega)), gr_0_4, ob_e, ck_e cl_7, ob_e]
      unfold f_Ledger_open
      rw [pi_e cl_7, ob_e, pi_e cl_7, ob_e, gr_7_5, ob_e, e_fill an_19 (by decide) (by decide), ob_e, ob_e, pi_e cl_0, ob_e]
      rfl
    · rw [h_Mo_weave_50, gi_e cl_174, ob_e, h9, if_pos (nI_le (Nat.le_refl _) (by omega))]
      exact e_mcl h23
  | kk + 1, i, n1 + 1, n2 + 1, s, Mc, Mm, Ps, hi, g1, g2, hs, h7, h9, h23, hX, hD => by
    have hi6 : i < 6 := by omega
    obtain ⟨s1, Mc1, Mm1, P1, a1, a2, a3, a4, a5, a6, a7, a8⟩ := w_one hi6 (hD i (by omega)) (hX i hi6).1 h23 (by omega)
    have hX1 : RX Mc1 Mm1 := RX_c hX (fun m hm => by rw [a6.2 (24 + 15 * m) (by omega)]) (a7.2.1 180 (by omega))
    obtain ⟨s', Mc', Mm', Ps', b1, b2, b3, b4, b5, b6, b7, b8, b9, b10⟩ := w_all (I := I) hn kk (i + 1) n1 n2 s1 Mc1 Mm1 (fun x => if x = i then P1 else Ps x) (by omega) (by omega) (by omega) (by omega) (by rw [a6.2 0 (by omega)]; exact h7) (by rw [a7.2.2.1 9 (by decide)]; exact h9) a8 hX1 (fun m hm => by
      by_cases hmi : m = i
      · subst hmi
        show RM m k s1 Mc1 Mm1 (if m = m then P1 else Ps m)
        rw [if_pos rfl]
        exact a5
      · show RM m k s1 Mc1 Mm1 (if m = i then P1 else Ps m)
        rw [if_neg hmi]
        exact RM_o (hD m hm) a3 hmi a6 a7)
    refine ⟨s', Mc', Mm', Ps', ?_, ?_, b3, b4, b5, b6.trans a6.1, fun q hq => (b7 q hq).trans (a6.2 q (by unfold frq at hq; omega)), b8.trans a7.1, fun q hq => (b9 q hq).trans (a7.2.1 q hq), fun z hz => (b10 z hz).trans (a7.2.2.1 z hz)⟩
    · rw [h_AP_weave_50, gi_e cl_0, ob_e, h7, if_neg (nI_ge (by omega) (by omega)), gr_0_2, ob_e, ar_m i hi6, ob_e, ck_e (cl_m i hi6), ob_e, a1, bd_e, nI_1]
      exact b1
    · rw [h_Mo_weave_50, gi_e cl_174, ob_e, h9, if_neg (nI_ge (by omega) (by omega)), ck_e cl_174, ob_e, a2, ob_e, nI_1]
      exact b2
/-- a weaving that may be done -/
theorem w_good {I : Nat} (hI1 : 50 ≤ I) (hI2 : I ≤ 100000) (hx : Rx n k s h Ps Mc Mm) (hw : Mc.1 0 9 = 0) : ∃ s' Mc' Mm' Ps', h_AP_weave_50 100000 0 (nI I) 0 0 Mc = some (.inl (nI s'), Mc') ∧ h_Mo_weave_50 100000 174 (nI I) 0 Mm = some (nI s', Mm') ∧ Rx n k s' h Ps' Mc' Mm' ∧ (∀ q, 174 ≤ q → Mc'.1 q = Mc.1 q) ∧ Mc'.2 = Mc.2 ∧ (∀ q, q < 174 ∨ 210 ≤ q → Mm'.1 q = Mm.1 q) ∧ Mm'.2 = Mm.2 ∧ Mm'.1 174 0 = Mm.1 174 0 := by
  obtain ⟨xa, xb, xc, xd, xe, xf, xg, xh, xi⟩ := hx
  have hs0 : s = 0 := xf.2.2.2.1 hw
  subst hs0
  obtain ⟨s', Mc1, Mm1, Ps', b1, b2, b3, b4, b5, b6, b7, b8, b9, b10⟩ := w_all (I := I) (k := k) xa.1 n 0 100000 100000 0 Mc Mm Ps (by omega) (by have := xa.1; omega) (by have := xa.1; omega) (by omega) xa.2.1 xa.2.2.1 xf.2.2.1 xe xd
  have fc : ∀ q, ¬ (q = 0 ∨ q = 7 ∨ q = 19) → (clC Mc1 s' I).1 q = Mc1.1 q := fun q hq => by
    unfold clC
    rw [row_ne (by omega)]
    funext z
    simp only [fillM]
    rw [if_neg (by omega), row_ne (by omega), row_ne (by omega)]
  have fc0 : ∀ z, (clC Mc1 s' I).1 0 z = if z = 9 then 1 else Mc.1 0 z := fun z => by
    unfold clC
    rw [sI_r]
    by_cases hz : z = 9
    · rw [if_pos ⟨rfl, hz⟩, if_pos hz]
    · rw [if_neg (fun h => hz h.2), if_neg hz]
      simp only [fillM]
      rw [if_neg (by omega), row_ne (by omega), row_ne (by omega), b7 0 (by unfold frq; omega)]
  have fc7 : ∀ z, (clC Mc1 s' I).1 7 z = if z = 11 then nI I else if z = 9 then nI s' else Mc.1 7 z := fun z => by
    unfold clC
    rw [row_ne (by omega)]
    simp only [fillM]
    rw [if_neg (by omega), sI_r]
    by_cases hz : z = 11
    · rw [if_pos ⟨rfl, hz⟩, if_pos hz]
    · rw [if_neg (fun h => hz h.2), if_neg hz, sI_r]
      by_cases hz2 : z = 9
      · rw [if_pos ⟨rfl, hz2⟩, if_pos hz2]
      · rw [if_neg (fun h => hz2 h.2), if_neg hz2, b7 7 (by unfold frq; omega)]
  have fc19 : ∀ z, z < 3 → (clC Mc1 s' I).1 19 z = nI I := fun z hz => by
    unfold clC
    rw [row_ne (by omega)]
    simp only [fillM]
    rw [if_pos ⟨trivial, hz⟩]
  have fc2 : (clC Mc1 s' I).2 = Mc.2 := b6
  have fm : ∀ q, ¬ (q = 174 ∨ q = 206) → (clM Mm1 I).1 q = Mm1.1 q := fun q hq => by
    unfold clM
    rw [row_ne (by omega), row_ne (by omega), row_ne (by omega), row_ne (by omega), row_ne (by omega)]
  have fm1 : ∀ z, (clM Mm1 I).1 174 z = if z = 11 then 1 else if z = 42 then nI I else Mm1.1 174 z := fun z => by
    unfold clM
    rw [sI_r]
    by_cases hz : z = 11
    · rw [if_pos ⟨rfl, hz⟩, if_pos hz]
    · rw [if_neg (fun h => hz h.2), if_neg hz, row_ne (by decide), row_ne (by decide), row_ne (by decide), sI_r]
      simp
  have fm2 : ∀ z, z < 3 → (clM Mm1 I).1 206 z = nI I := fun z hz => by
    unfold clM
    rw [row_ne (by decide), sI_r]
    by_cases h2 : z = 2
    · rw [if_pos ⟨rfl, h2⟩]
    · rw [if_neg (fun h => h2 h.2), sI_r]
      by_cases h1 : z = 1
      · rw [if_pos ⟨rfl, h1⟩]
      · rw [if_neg (fun h => h1 h.2), sI_r, if_pos ⟨rfl, by omega⟩]
  have fm3 : (clM Mm1 I).2 = Mm.2 := b8
  have f0 : ∀ q, ¬ (q = 0 ∨ q = 7 ∨ q = 19) → frq q → (clC Mc1 s' I).1 q = Mc.1 q := fun q h1 h2 => by rw [fc q h1, b7 q h2]
  have f1 : ∀ q, ¬ (q = 174 ∨ q = 206 ∨ (186 ≤ q ∧ q ≤ 190)) → (clM Mm1 I).1 q = Mm.1 q := fun q h1 => by rw [fm q (by omega), b9 q (by omega)]
  have f2 : ∀ z, z ≠ 11 → z ≠ 42 → z ≠ 23 → (clM Mm1 I).1 174 z = Mm.1 174 z := fun z h1 h2 h3 => by rw [fm1, if_neg h1, if_neg h2, b10 z h3]
  obtain ⟨ea, eb, ec, ed, ⟨e1, e2, e3⟩, ⟨g1, g2, g3⟩, ⟨e, j1, j2, j3, j4, j5⟩, ei⟩ := xf
  refine ⟨s', clC Mc1 s' I, clM Mm1 I, Ps', b1, b2, ⟨?_, ?_, ?_, ?_, ?_, ⟨b3, ?_, ?_, ?_, ⟨fun t ht j hj => ?_, fun t ht j hj => ?_, fun z h1 h2 => ?_⟩, ⟨fun j hj => ?_, fun j hj => ?_, fun j hj => ?_⟩, ⟨e, j1, ?_, ?_, fun i hi => ?_, fun i h1 h2 => ?_⟩, fun _ => ⟨I, hI1, hI2, ?_, ?_, fun t ht => ⟨I, by omega, Nat.le_refl _, fc19 t ht, fm2 t ht⟩⟩⟩, ?_, ?_, fun t ht => ?_⟩, fun q hq => f0 q (by omega) (by unfold frq; omega), fc2, fun q hq => f1 q (by omega), fm3, f2 0 (by decide) (by decide) (by decide)⟩
  · obtain ⟨a1, a2, a3, a4, a5, a6⟩ := xa
    exact ⟨a1, by rw [fc0, if_neg (by decide)]; exact a2, by rw [f2 9 (by decide) (by decide) (by decide)]; exact a3, by rw [fc0, if_neg (by decide), f2 10 (by decide) (by decide) (by decide)]; exact a4, by rw [fc0, if_pos rfl, fm1, if_pos rfl], by rw [fc0, if_pos rfl]; exact Or.inr rfl⟩
  · exact RB_c xb (f0 2 (by omega) (by unfold frq; omega)) (f0 3 (by omega) (by unfold frq; omega)) (f2 1 (by decide) (by decide) (by decide)) (f1 175 (by omega)) (f1 176 (by omega))
  · exact RC_c xc (fun q h1 h2 => f0 q (by omega) (by unfold frq; omega)) (f2 4 (by decide) (by decide) (by decide)) (f2 7 (by decide) (by decide) (by decide)) (fun q h1 h2 => f1 q (by omega))
  · exact RD_c b5 xa.1 (fun q h1 h2 => fc q (by omega)) (fun q h1 h2 => fm q (by omega))
  · exact RX_c xe (fun m hm => by rw [f0 (24 + 15 * m) (by omega) (by unfold frq; omega)]) (f1 180 (by omega))
  · rw [fc7, if_neg (by decide), if_pos rfl]
  · rw [fm1, if_neg (by decide), if_neg (by decide)]; exact b4
  · rw [fc0, if_pos rfl]; exact fun h => absurd h (by decide)
  · rw [f0 (9 + t) (by omega) (by unfold frq; omega), fm3]; exact e1 t ht j hj
  · rw [fc2, fm3]; exact e2 t ht j hj
  · rw [fm3]; exact e3 z (by omega) h2
  · rw [fc2, fm3]; exact g1 j hj
  · rw [f0 17 (by omega) (by unfold frq; omega), f1 203 (by omega)]; exact g2 j hj
  · rw [fc2, fm3]; exact g3 j hj
  · rw [fc7, if_neg (by decide), if_neg (by decide)]; exact j2
  · rw [f2 44 (by decide) (by decide) (by decide)]; exact j3
  · rw [f0 20 (by omega) (by unfold frq; omega), f0 21 (by omega) (by unfold frq; omega), f0 22 (by omega) (by unfold frq; omega), f1 207 (by omega), f1 208 (by omega), f1 209 (by omega)]; exact j4 i hi
  · rw [f0 22 (by omega) (by unfold frq; omega)]; exact j5 i h1 h2
  · rw [fc7, if_pos rfl]
  · rw [fm1, if_neg (by decide), if_pos rfl]
  · exact RF_c xg (f0 5 (by omega) (by unfold frq; omega)) (f0 6 (by omega) (by unfold frq; omega)) (f2 35 (by decide) (by decide) (by decide)) (f1 200 (by omega))
  · exact RG_c xh (f0 1 (by omega) (by unfold frq; omega)) (f2 33 (by decide) (by decide) (by decide)) (f2 34 (by decide) (by decide) (by decide))
  · obtain ⟨t1, a, t2, t3, t4, t5, t6, t7⟩ := xi t ht
    have ha : a = 0 := by
      rcases Nat.eq_zero_or_pos a with h9 | h9
      · exact h9
      · have := (t6 h9).2
        rw [hw] at this
        exact absurd this (by decide)
    subst ha
    have r1 := f0 (114 + 17 * t) (by omega) (by unfold frq; omega)
    exact ⟨by rw [r1]; exact t1, 0, by decide, by rw [r1]; exact t3, by rw [f1 192 (by omega)]; exact t4, fun _ => by rw [r1, f1 193 (by omega), f1 194 (by omega)]; exact t5 rfl, fun h => absurd h (Nat.not_lt_zero _), fun f hf => absurd hf (Nat.not_lt_zero _)⟩
end PW
theorem p_weave (a1 : Int32) {M : fm_M} (hR : Rel M M) : ∃ M', l_case7 a1 M = some M' ∧ Rel M' M' := by
  obtain ⟨n, k, s, h, Ps, hx⟩ := hR
  obtain ⟨hn6, hn, hmn, -, hw, hw2⟩ := hx.1
  have thr : ∀ v : Int32, 0 < v → j_Mo_weave_36 174 a1 174 v M = some (0, fm_sI M 174 0 v) := by
    intro v hv
    have h0 : ¬ v ≤ 0 := by
      rw [Int32.lt_iff_toInt_lt] at hv
      rw [Int32.le_iff_toInt_le]
      omega
    unfold j_Mo_weave_36
    rw [pi_e cl_174, ob_e, gi_e cl_174, ob_e, show (fm_sI M 174 0 v).1 174 0 = v from rfl, if_neg h0]
  have fin : ∀ v : Int32, ¬ v = 0 → f_Law_weave 0 a1 210 M = some (v, M) → f_Mo_weave 174 a1 M = some (0, fm_sI M 174 0 v) → ∃ M', l_case7 a1 M = some M' ∧ Rel M' M' := by
    intro v hv hC hD
    refine ⟨fm_sI M 174 0 v, ?_, n, k, s, h, Ps, Rx_c hx (eqC_I (by decide)) (eqM_t _ _)⟩
    unfold l_case7
    rw [hC, bd_e, ck_e cl_174, ob_e, hD, bd_e]
    exact tail_i rfl (fun h9 => absurd h9 hv)
  by_cases hv : 50 ≤ a1.toInt ∧ a1.toInt ≤ 100000
  · obtain ⟨I, -, rfl, hI⟩ := nI_get (x := a1) (by omega)
    have c1 : ¬ nI I < 50 := nI_nlt (b := 50) (by omega) (by omega)
    have c2 : nI I ≤ 100000 := nI_le (b := 100000) (by omega) (by decide)
    by_cases hww : M.1 0 9 = 0
    · by_cases hn0 : n = 0
      · subst hn0
        refine fin 2 (by decide) ?_ ?_
        · unfold f_Law_weave f_AP_weave j_AP_weave_36
          rw [ck_e cl_0, ob_e, if_neg c1, if_pos c2, gi_e cl_0, ob_e, if_pos hww, gi_e cl_0, ob_e, hn, if_pos (by decide), lt_r, if_neg (by decide), if_pos rfl]
        · unfold f_Mo_weave j_Mo_weave_31
          rw [if_neg c1, if_pos c2, gi_e cl_174, ob_e, if_pos (hw.symm.trans hww), gi_e cl_174, ob_e, hmn, if_pos (by decide)]
          exact thr 2 (by decide)
      · have hn1 : ¬ nI n = 0 := nI_ne0 (by omega) (by omega)
        have hx0 : ∀ N : fm_M, (∀ q, 174 ≤ q → q < 210 → N.1 q = M.1 q ∧ N.2.1 q = M.2.1 q ∧ N.2.2.1 q = M.2.2.1 q) → Rx n k s h Ps M (fm_sI N 174 0 0) := fun N hN => Rx_c hx (eqC_r M) ⟨fun j hj => by rw [sI_r, if_neg (fun h => hj h.2), (hN 174 (by omega) (by omega)).1], fun q q1 q2 _ => ⟨by rw [row_ne (by omega), (hN q (by omega) q2).1], (hN q (by omega) q2).2.1, (hN q (by omega) q2).2.2⟩⟩
        obtain ⟨s1, M1, -, -, p1, -, -, p4, p5, -⟩ := w_good (I := I) (by omega) (by omega) (hx0 M (fun q _ _ => ⟨rfl, rfl, rfl⟩)) hww
        obtain ⟨s2, M1', M2, Ps2, q1, q2, q3, q4, q5, q6, q7, q8⟩ := w_good (I := I) (by omega) (by omega) (hx0 (fm_sJ M1 210 0 (nI s1).toInt64) (fun q g1 g2 => ⟨p4 q g1, by
          show (fm_sJ M1 210 0 (nI s1).toInt64).2.1 q = _
          rw [← p5]
          funext z
          rw [sJ_r, if_neg (by omega)], by
          show M1.2.2.1 q = _
          rw [p5]⟩)) hww
        have e1 := p1.symm.trans q1
        have e2 : (Sum.inl (nI s1) : Int32 ⊕ String) = Sum.inl (nI s2) ∧ M1 = M1' := by
          have := Option.some.inj e1
          exact ⟨congrArg Prod.fst this, congrArg Prod.snd this⟩
        have e3 : nI s1 = nI s2 := Sum.inl.inj e2.1
        have e4 := e2.2
        subst e4
        have hC : f_Law_weave 0 (nI I) 210 M = some (0, fm_sJ M1 210 0 (nI s1).toInt64) := by
          unfold f_Law_weave f_AP_weave
          rw [ck_e cl_0, ob_e, if_neg c1, if_pos c2, gi_e cl_0, ob_e, if_pos hww, gi_e cl_0, ob_e, hn, if_neg hn1, p1, lt_l, out_w, ob_e]
        have m9 : (fm_sJ M1 210 0 (nI s1).toInt64).1 174 9 = nI n := by show M1.1 174 9 = _; rw [p4 174 (by omega)]; exact hmn
        have m11 : (fm_sJ M1 210 0 (nI s1).toInt64).1 174 11 = 0 := by show M1.1 174 11 = _; rw [p4 174 (by omega), ← hw]; exact hww
        have hD : f_Mo_weave 174 (nI I) (fm_sJ M1 210 0 (nI s1).toInt64) = some (nI s2, M2) := by
          unfold f_Mo_weave j_Mo_weave_36
          rw [if_neg c1, if_pos c2, gi_e cl_174, ob_e, m11, if_pos rfl, gi_e cl_174, ob_e, m9, if_neg hn1, pi_e cl_174, ob_e, gi_e cl_174, ob_e, show (fm_sI (fm_sJ M1 210 0 (nI s1).toInt64) 174 0 0).1 174 0 = 0 from rfl, if_pos (by decide)]
          exact q2
        refine ⟨M2, ?_, n, k, s2, h, Ps2, Rx_c q3 (fun q hq => ?_) (eqM_r _)⟩
        · unfold l_case7
          rw [hC, bd_e, ck_e cl_174, ob_e, hD, bd_e]
          exact tail_i (by rw [q8, sI_r, if_pos ⟨rfl, rfl⟩]) (fun _ => by
            rw [q7, ← e3]
            show (fm_sJ M1 210 0 (nI s1).toInt64).2.1 210 0 = _
            rw [sJ_r, if_pos ⟨rfl, rfl⟩])
        · refine ⟨by rw [q6 q (by omega), row_ne (by omega)]; rfl, ?_, by rw [q7]; rfl⟩
          rw [q7]
          funext z
          show (fm_sJ M1 210 0 (nI s1).toInt64).2.1 q z = _
          rw [sJ_r, if_neg (by omega)]
    · refine fin 2 (by decide) ?_ ?_
      · unfold f_Law_weave f_AP_weave j_AP_weave_36
        rw [ck_e cl_0, ob_e, if_neg c1, if_pos c2, gi_e cl_0, ob_e, if_neg hww, lt_r, if_neg (by decide), if_pos rfl]
      · unfold f_Mo_weave j_Mo_weave_31
        rw [if_neg c1, if_pos c2, gi_e cl_174, ob_e, if_neg (fun h9 => hww (hw.trans h9))]
        exact thr 2 (by decide)
  · refine fin 1 (by decide) ?_ ?_
    · unfold f_Law_weave f_AP_weave j_AP_weave_12
      rw [ck_e cl_0, ob_e]
      by_cases c1 : a1 < 50
      · rw [if_pos c1, lt_r, if_pos rfl]
      · have c2 : ¬ a1 ≤ 100000 := by
          rw [Int32.lt_iff_toInt_lt, show (50 : Int32).toInt = 50 from by decide] at c1
          rw [Int32.le_iff_toInt_le, show (100000 : Int32).toInt = 100000 from by decide]
          omega
        rw [if_neg c1, if_neg c2, lt_r, if_pos rfl]
    · unfold f_Mo_weave j_Mo_weave_13
      rw [thr 1 (by decide)]
      by_cases c1 : a1 < 50
      · rw [if_pos c1]
      · have c2 : ¬ a1 ≤ 100000 := by
          rw [Int32.lt_iff_toInt_lt, show (50 : Int32).toInt = 50 from by decide] at c1
          rw [Int32.le_iff_toInt_le, show (100000 : Int32).toInt = 100000 from by decide]
          omega
        rw [if_neg c1, if_neg c2]
