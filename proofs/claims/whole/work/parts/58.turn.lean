/-! one thread at work -/
def otC (Mc Mc' : fm_M) : Prop := ∀ q, 174 ≤ q → Mc'.1 q = Mc.1 q ∧ Mc'.2.1 q = Mc.2.1 q ∧ Mc'.2.2.1 q = Mc.2.2.1 q
def otM (Mm Mm' : fm_M) : Prop := Mm'.1 174 0 = Mm.1 174 0 ∧ ∀ q, (q < 174 ∨ 210 ≤ q) → Mm'.1 q = Mm.1 q ∧ Mm'.2.1 q = Mm.2.1 q ∧ Mm'.2.2.1 q = Mm.2.2.1 q
section TURN
variable {n k s h t f a u p d r wl : Nat} {M M1 M2 Mc Mm Mc' Mm' : fm_M} {L S : Nat → Int32} {Ps : Nat → Nat → Nat → Prop}
theorem otC_r : otC M M := fun _ _ => ⟨rfl, rfl, rfl⟩
theorem otM_r : otM M M := ⟨rfl, fun _ _ => ⟨rfl, rfl, rfl⟩⟩
theorem otC_t (h1 : otC M M1) (h2 : otC M1 M2) : otC M M2 := fun q hq => ⟨(h2 q hq).1.trans (h1 q hq).1, (h2 q hq).2.1.trans (h1 q hq).2.1, (h2 q hq).2.2.trans (h1 q hq).2.2⟩
theorem otM_t (h1 : otM M M1) (h2 : otM M1 M2) : otM M M2 := ⟨h2.1.trans h1.1, fun q hq => ⟨(h2.2 q hq).1.trans (h1.2 q hq).1, (h2.2 q hq).2.1.trans (h1.2 q hq).2.1, (h2.2 q hq).2.2.trans (h1.2 q hq).2.2⟩⟩
theorem otC_k (ht : t < 3) (h : kC t M M1) : otC M M1 := fun q hq => ⟨h.2 q (by omega), by rw [h.1], by rw [h.1]⟩
theorem otM_k (h : kM t M M1) : otM M M1 := ⟨by rw [h.2.1 174 (by omega)], fun q hq => ⟨h.2.1 q (by omega), by rw [h.1], by rw [h.1]⟩⟩
/-- what stands before an instruction is done -/
theorem work (hx : Rx n k s h Ps Mc Mm) (ht : t < 3) (hf : f < 5) (ha : Mc.1 (114 + 17 * t) 2 = nI (f + 1)) : ∃ u p d wl r o A L S Mm1, u < n ∧ Ps u p d ∧ Wm k s u Mc Mm (Ps u) wl r ∧ cF Mc t f u p d L S ∧ mF Mm1 t f u (p + 1) d L S ∧ kG t f Mm Mm1 ∧ p < wl ∧ o ≤ 15 ∧ Mc.1 (31 + 15 * u + 4) p = nI o ∧ Mc.1 (31 + 15 * u + 5) p = A ∧ tkN o ≤ d ∧ (¬ (o = 8 ∨ o = 14 ∨ o = 15) → Ps u (nx (Mc.1 (31 + 15 * u + 4)) wl p) (d - tkN o + ptN o)) ∧ (o = 8 ∨ o = 9 ∨ o = 10 → ∃ x, x < wl ∧ A = nI x ∧ Ps u x (d - tkN o + ptN o)) ∧ ((o = 1 ∨ o = 2) → ∃ x, x < 4 ∧ A = nI x) ∧ (o = 11 → ∃ x, x < k ∧ A = nI x) ∧ (o = 12 → (A = 1 ∨ A = 2 ∨ A = 4 ∨ A = 8)) ∧ (o = 13 → ∃ x, x ≤ u ∧ A = nI x) ∧ f_Machine_perform 1 (114 + 17 * t) Mc = pB t f (nI o) A Mc ∧ f_Mo_execute 174 (nI t) Mm = eB t f (nI o) A Mm1 := by
  obtain ⟨xa, xb, xc, xd, xe, xf, xg, xh, xi⟩ := hx
  obtain ⟨s1, s2, s3, s4, s5, p, d, u, s6, s7, s8⟩ := SR_split (xi t ht) ha hf
  have hu : u < 6 := by have := xa.1; omega
  obtain ⟨wl, r, hw⟩ := Wm_of xd s7
  obtain ⟨L, S, c, m⟩ := FR_s s6
  obtain ⟨w1, w2, w3, w4⟩ := id hw
  obtain ⟨hp, ho15, htk, hd5, hnx, hbr, -⟩ := w4.2.2.2.2.2 p d s8
  obtain ⟨o, o1, o2, o3, o4, o5, o6, o7, -⟩ := w4.2.1 p hp
  have hoN : oN (Mc.1 (31 + 15 * u + 4) p) = o := by rw [o2, oN_n (by omega)]
  rw [hoN] at ho15 htk hnx hbr
  obtain ⟨M1, m1, m2, m3⟩ := m_at (p' := p + 1) ht hf m
  refine ⟨u, p, d, wl, r, o, _, L, S, M1, s7, s8, hw, c, m3, m2, hp, ho15, o2, rfl, htk, hnx, fun hb => ?_, o3, o5, o6, o7, ?_, ?_⟩
  · obtain ⟨x, x1, x2⟩ := o4 (by omega)
    refine ⟨x, x1, x2, ?_⟩
    have := hbr (by omega)
    rw [x2, oN_n (by omega)] at this
    exact this
  · rw [e_perf ht hf hu ha c.1 c.2.1 w3.1 w1 hp, o2]
  · rw [e_exec ht hf hu (by omega) s2 m.1 m.2.1, ← (w3.2.2.2.2.1 p hp).1, ← (w3.2.2.2.2.1 p hp).2, o2]
    rw [si_n an_196 (by omega) (by decide)] at m1
    rw [Option.some.inj m1]
/-- what a step of one thread gives -/
def Turn (n k s h : Nat) (Ps : Nat → Nat → Nat → Prop) (t f : Nat) (o A : Int32) (Mc Mm : fm_M) (Mc0 Mm0 : fm_M) : Prop := ∃ h' Mc' Mm', pB t f o A Mc = some Mc' ∧ eB t f o A Mm = some Mm' ∧ Rx n k s h' Ps Mc' Mm' ∧ otC Mc0 Mc' ∧ otM Mm0 Mm'
theorem flow5 {o : Nat} (hw : Wm k s u Mc Mm (Ps u) wl r) {p' d' : Nat} (hP : Ps u p' d') : d' ≤ 5 ∧ p' < wl := ⟨(hw.2.2.2.2.2.2.2.2 p' d' hP).2.2.2.1, (hw.2.2.2.2.2.2.2.2 p' d' hP).1⟩
theorem nx_1 {O : Nat → Int32} {o l : Nat} (h : O p = nI o) (ho : o ≤ 15) (h1 : ¬ (o = 11 ∨ o = 12)) : nx O l p = p + 1 := by
  unfold nx
  rw [h, oN_n (by omega), if_neg (fun h9 => h1 h9.1)]
/-- an instruction that stays in its method -/
theorem t_stay {o : Nat} {A : Int32} (hx : Rx n k s h Ps Mc Mm) (ht : t < 3) (hf : f < 5) (ha : Mc.1 (114 + 17 * t) 2 = nI (f + 1)) (hu : u < n) (hk : kG t f Mm M1) (hs : stay t f u p d o A Mc M1) (hP : ∀ p', ((p' = p + 1 ∧ o ≠ 8) ∨ ((o = 8 ∨ o = 9 ∨ o = 10) ∧ A = nI p' ∧ p' < 1000)) → Ps u p' (d - tkN o + ptN o)) : Turn n k s h Ps t f (nI o) A Mc M1 Mc Mm := by
  obtain ⟨Mc', Mm', p', d', L', S', g1, g2, g3, g4, g5, g6, g7, g8⟩ := hs
  obtain ⟨s1, s2, s3, s4, s5, -⟩ := SR_split (hx.2.2.2.2.2.2.2.2 t ht) ha hf
  have hG := kG_t hk g4
  have hn := hx.1.1
  refine ⟨h, Mc', Mm', g1, g2, Rx_t ht hx (kC_F hf g3) (kM_G hf hG) (SR_mk hf (by rw [g3.2 _ (by omega)]; exact s1) (by rw [g3.2 _ (by omega)]; exact ha) (by rw [hG.2.1 _ (by omega)]; exact s2) (by rw [hG.2.1 _ (by omega)]; exact s3) (by rw [g3.2 _ (by omega)]; exact s4) (Lo_k s5 (Nat.le_refl _) hn g3 hG) (FR_j g5 g6) hu (by rw [g7]; exact hP p' g8)), otC_k ht (kC_F hf g3), otM_k (kM_G hf hG)⟩
/-- a number thrown in the method at work -/
theorem t_raise {v : Int32} (hx : Rx n k s h Ps Mc Mm) (ht : t < 3) (hf : f < 5) (ha : Mc.1 (114 + 17 * t) 2 = nI (f + 1)) (hu : u < n) (hP : ∃ d', Ps u p d') (hc : kF t f Mc M1) (hm : kG t f Mm M2) (c : cF M1 t f u p d L S) (m : mF M2 t f u (p + 1) d L S) : ∃ Mc' Mm', f_Machine_raise 1 (114 + 17 * t) v M1 = some Mc' ∧ f_Mo_raise 174 (nI t) v M2 = some Mm' ∧ Rx n k s h Ps Mc' Mm' ∧ otC Mc Mc' ∧ otM Mm Mm' := by
  obtain ⟨s1, s2, s3, s4, s5, -⟩ := SR_split (hx.2.2.2.2.2.2.2.2 t ht) ha hf
  have hn := hx.1.1
  have ha1 : M1.1 (114 + 17 * t) 2 = nI (f + 1) := by rw [hc.2 _ (by omega)]; exact ha
  have hL := Lo_k s5 (Nat.le_refl _) hn hc hm
  obtain ⟨Mc', Mm', g1, g2, g3, g4, g5⟩ := e_raise (v := v) (k := k) (s := s) ht hn (f + 1) 100000 100000 M1 M2 (by omega) (by omega) (by omega) (RD_c hx.2.2.2.1 hn (fun q a b => hc.2 q (by omega)) (fun q a b => hm.2.1 q (by omega))) ha1 (by rw [hm.2.1 _ (by omega)]; exact s2) (by rw [hc.2 _ (by omega)]; exact s1) (by rw [hc.2 _ (by omega)]; exact s4) (by rw [hm.2.1 _ (by omega)]; exact s3) (fun f' hf' => by
    by_cases hff : f' = f
    · subst hff
      exact ⟨p, d, u, FR_j c m, hu, hP, fun h9 => absurd h9 (by omega)⟩
    · obtain ⟨p', d', u', k1, k2, k3, k4⟩ := hL f' (by omega)
      exact ⟨p', d', u', k1, k2, ⟨_, k3⟩, fun _ => ⟨k3, k4⟩⟩)
  have kc := kC_t (kC_F hf hc) g3
  have km := kM_t (kM_G hf hm) g4
  refine ⟨Mc', Mm', ?_, g2, Rx_t ht hx kc km g5, otC_k ht kc, otM_k km⟩
  unfold f_Machine_raise
  rw [gi_e (cl_t t ht), ob_e, ha1]
  exact g1
theorem t_throw {A : Int32} (hx : Rx n k s h Ps Mc Mm) (ht : t < 3) (hf : f < 5) (ha : Mc.1 (114 + 17 * t) 2 = nI (f + 1)) (hu : u < n) (hP : Ps u p (d + 1)) (c : cF Mc t f u p (d + 1) L S) (hk : kG t f Mm M1) (m : mF M1 t f u (p + 1) (d + 1) L S) : Turn n k s h Ps t f (nI 15) A Mc M1 Mc Mm := by
  obtain ⟨C1, a1, a2, a3⟩ := c_pop ht hf c
  obtain ⟨N1, e1, e2, e3⟩ := m_pop ht hf m
  obtain ⟨Mc', Mm', g1, g2, g3, g4, g5⟩ := t_raise (v := S d) hx ht hf ha hu ⟨_, hP⟩ a2 (kG_t hk e2) a3 e3
  refine ⟨h, Mc', Mm', ?_, ?_, g3, g4, g5⟩
  · unfold pB
    rw [if_neg (by decide), if_neg (by decide), if_neg (by decide), if_neg (by decide), if_neg (by decide), if_neg (by decide), if_neg (by decide), if_pos (by decide), ck_e (cl_f t ht f hf), ob_e, a1, bd_e, ck_e cl_1, ob_e, g1, ob_e]
  · unfold eB f_Mo_take j_Mo_take_11 j_Mo_take_30 j_Mo_take_49 j_Mo_take_75 j_Mo_take_90 j_Mo_take_103
    rw [if_neg (by decide), if_neg (by decide), if_neg (by decide), if_pos (by decide), if_neg (by decide), if_neg (by decide), if_neg (by decide), ck_e cl_174, ob_e, e1, bd_e, ob_e, if_neg (by decide), if_neg (by decide), if_neg (by decide), if_neg (by decide), if_neg (by decide), if_neg (by decide), if_pos (by decide), ob_e, g2, ob_e, ob_e]
theorem e_leave (ht : t < 3) (hf : f < 5) (ha : M.1 (114 + 17 * t) 2 = nI (f + 1)) : f_Strand_leave (114 + 17 * t) M = some (fm_sI M (114 + 17 * t) 2 (nI f)) := by
  unfold f_Strand_leave
  rw [gi_e (cl_t t ht), ob_e, ha, if_neg (nI_nle (by omega) (by omega)), ob_e, nI_pred, pi_e (cl_t t ht), ob_e]
theorem t_return {A : Int32} (hx : Rx n k s h Ps Mc Mm) (ht : t < 3) (hf : f < 5) (ha : Mc.1 (114 + 17 * t) 2 = nI (f + 1)) (c : cF Mc t f u p (d + 1) L S) (hk : kG t f Mm M1) (m : mF M1 t f u (p + 1) (d + 1) L S) : Turn n k s h Ps t f (nI 14) A Mc M1 Mc Mm := by
  obtain ⟨s1, s2, s3, s4, s5, -⟩ := SR_split (hx.2.2.2.2.2.2.2.2 t ht) ha hf
  have hn := hx.1.1
  obtain ⟨C1, a1, a2, a3⟩ := c_pop ht hf c
  obtain ⟨N1, e1, e2, e3⟩ := m_pop ht hf m
  have hG := kG_t hk e2
  have hL := Lo_k s5 (Nat.le_refl _) hn a2 hG
  have hC : kT t C1 N1 (fm_sI C1 (114 + 17 * t) 2 (nI f)) (fm_sI N1 192 t (nI f)) := ⟨fun q hq => row_ne hq, fun q hq => row_ne (by omega)⟩
  have hL2 := Lo_w hL hn ht hC
  have hac : C1.1 (114 + 17 * t) 2 = nI (f + 1) := by rw [a2.2 _ (by omega)]; exact ha
  have ham : N1.1 192 t = nI (f + 1) := by rw [hG.2.1 _ (by omega)]; exact s2
  have ra : (fm_sI C1 (114 + 17 * t) 2 (nI f)).1 (114 + 17 * t) 2 = nI f := by rw [sI_r, if_pos ⟨rfl, rfl⟩]
  have rb : (fm_sI N1 192 t (nI f)).1 192 t = nI f := by rw [sI_r, if_pos ⟨rfl, rfl⟩]
  have kc0 : kC t Mc (fm_sI C1 (114 + 17 * t) 2 (nI f)) := kC_t (kC_F hf a2) kC_w
  have km0 : kM t Mm (fm_sI N1 192 t (nI f)) := kM_t (kM_G hf hG) (kM_w (by decide) (by decide))
  have mod : ∀ Mm', f_Mo_leave 174 (nI t) (S d) N1 = some Mm' → eB t f (nI 14) A M1 = some Mm' := by
    intro Mm' hMm
    unfold eB f_Mo_take j_Mo_take_11 j_Mo_take_30 j_Mo_take_49 j_Mo_take_75 j_Mo_take_90 j_Mo_take_103
    rw [if_neg (by decide), if_neg (by decide), if_neg (by decide), if_pos (by decide), if_neg (by decide), if_neg (by decide), if_neg (by decide), ck_e cl_174, ob_e, e1, bd_e, ob_e, if_neg (by decide), if_neg (by decide), if_neg (by decide), if_neg (by decide), if_neg (by decide), if_pos (by decide), ob_e, hMm, ob_e, if_neg (by decide), ob_e]
  have cls : ∀ Mc', f_Machine_giveBack 1 (114 + 17 * t) (S d) C1 = some Mc' → pB t f (nI 14) A Mc = some Mc' := by
    intro Mc' hMc
    unfold pB
    rw [if_neg (by decide), if_neg (by decide), if_neg (by decide), if_neg (by decide), if_neg (by decide), if_neg (by decide), if_pos (by decide), ck_e (cl_f t ht f hf), ob_e, a1, bd_e, ck_e cl_1, ob_e, hMc, ob_e]
  by_cases hf0 : f = 0
  · subst hf0
    have kc : kC t Mc (fm_sI (fm_sI (fm_sI C1 (114 + 17 * t) 2 (nI 0)) (114 + 17 * t) 3 2) (114 + 17 * t) 4 (S d)) := kC_t kc0 (kC_t kC_w kC_w)
    have km : kM t Mm (fm_sI (fm_sI (fm_sI N1 192 t (nI 0)) 193 t 2) 194 t (S d)) := kM_t km0 (kM_t (kM_w (by decide) (by decide)) (kM_w (by decide) (by decide)))
    refine ⟨h, fm_sI (fm_sI (fm_sI C1 (114 + 17 * t) 2 (nI 0)) (114 + 17 * t) 3 2) (114 + 17 * t) 4 (S d), fm_sI (fm_sI (fm_sI N1 192 t (nI 0)) 193 t 2) 194 t (S d), cls _ ?_, mod _ ?_, Rx_t ht hx kc km ⟨?_, 0, by decide, ?_, ?_, fun _ => ⟨?_, ?_, Or.inr (Or.inl ?_)⟩, fun h => absurd h (Nat.not_lt_zero _), fun f hf => absurd hf (Nat.not_lt_zero _)⟩, otC_k ht kc, otM_k km⟩
    · unfold f_Machine_giveBack
      rw [ck_e (cl_t t ht), ob_e, e_leave ht hf hac, ob_e, ob_e, e_running ht ra (by decide), bd_e, if_pos rfl, if_pos rfl, ob_e]
      unfold f_Strand_end
      rw [pi_e (cl_t t ht), ob_e, pi_e (cl_t t ht), ob_e, ob_e]
    · unfold f_Mo_leave
      rw [gr_174_25, ob_e, ai_n an_192 ht (by decide), ob_e, ham, nI_pred, si_n an_192 ht (by decide), ob_e, ob_e, ai_n an_192 ht (by decide), ob_e, rb, if_pos (by decide), gr_174_26, ob_e, si_n an_193 ht (by decide), ob_e, gr_174_27, ob_e, si_n an_194 ht (by decide), ob_e]
    · rw [sI_r, if_neg (by omega), sI_r, if_neg (by omega), sI_r, if_neg (by omega), a2.2 _ (by omega)]; exact s1
    · rw [sI_r, if_neg (by omega), sI_r, if_neg (by omega)]; exact ra
    · rw [sI_r, if_neg (by omega), sI_r, if_neg (by omega)]; exact rb
    · rw [sI_r, if_neg (by omega), sI_r, if_pos ⟨rfl, rfl⟩, sI_r, if_neg (by omega), sI_r, if_pos ⟨rfl, rfl⟩]
    · rw [sI_r, if_pos ⟨rfl, rfl⟩, sI_r, if_pos ⟨rfl, rfl⟩]
    · rw [sI_r, if_neg (by omega), sI_r, if_pos ⟨rfl, rfl⟩]
  · obtain ⟨g, rfl⟩ : ∃ g, f = g + 1 := ⟨f - 1, by omega⟩
    have hg : g < 5 := by omega
    obtain ⟨p', d', u', k1, k2, k3, k4⟩ := hL2 g (by omega)
    obtain ⟨wl, r, hw⟩ := Wm_of hx.2.2.2.1 k2
    have k4' : Mc.1 (31 + 15 * u' + 4) p' = nI 13 := by
      rw [row_ne (by omega), a2.2 _ (by omega)] at k4
      rw [show 31 + 15 * u' + 4 = 35 + 15 * u' by omega]
      exact k4
    have hfl := hw.2.2.2.2.2.2.2.2 p' (d' + 1) k3
    have hd5 : d' + 1 ≤ 5 := hfl.2.2.2.1
    have hPn : Ps u' (p' + 1) (d' + 1) := by
      have := hfl.2.2.2.2.1 (by rw [k4', oN_n (by decide)]; decide)
      rw [nx_1 k4' (by decide) (by decide), k4', oN_n (by decide)] at this
      exact this
    obtain ⟨L', S', c', m'⟩ := FR_s k1
    obtain ⟨C3, i1, i2, i3⟩ := c_push (v := S d) ht hg c' (by omega)
    obtain ⟨C4, j1, j2, j3⟩ := c_on ht hg i3
    obtain ⟨N3, l1, l2, l3⟩ := m_push (v := S d) ht hg m' (by omega)
    have kc : kC t Mc C4 := kC_t kc0 (kC_F hg (kF_t i2 j2))
    have km : kM t Mm N3 := kM_t km0 (kM_G hg l2)
    have kf := kF_t i2 j2
    refine ⟨h, C4, N3, cls _ ?_, mod _ ?_, Rx_t ht hx kc km (SR_mk hg ?_ ?_ ?_ ?_ ?_ (Lo_k (fun f' hf' => hL2 f' (by omega)) (Nat.le_refl _) hn kf l2) (FR_j j3 l3) k2 hPn), otC_k ht kc, otM_k km⟩
    · have rc : C3.1 (114 + 17 * t) 2 = nI (g + 1) := by rw [i2.2 _ (by omega)]; exact ra
      unfold f_Machine_giveBack
      rw [ck_e (cl_t t ht), ob_e, e_leave ht hf hac, ob_e, ob_e, e_running ht ra (by omega), show (if g + 1 = 0 then (0 : Int32) else 1) = 1 from if_neg (by omega), bd_e, if_neg (by decide), ob_e, e_top ht hg ra, bd_e, ck_e (cl_f t ht g hg), ob_e, i1, ob_e, ob_e, e_top ht hg rc, bd_e]
      exact j1
    · have hF : (((5 : Int32) * nI t) + nI (g + 1)) - 1 = nI (5 * t + g) := by rw [show (5 : Int32) * nI t = nI (5 * t) from nI_mul 5 t, nI_add, show 5 * t + (g + 1) = 5 * t + g + 1 from rfl, nI_pred]
      unfold f_Mo_leave
      rw [gr_174_25, ob_e, ai_n an_192 ht (by decide), ob_e, ham, nI_pred, si_n an_192 ht (by decide), ob_e, ob_e, ai_n an_192 ht (by decide), ob_e, rb, if_neg (nI_nle (by omega) (by omega)), ob_e, ai_n an_192 ht (by decide), ob_e, rb, ck_e cl_174, ob_e, hF, l1, ob_e]
    · rw [kf.2 _ (by omega), sI_r, if_neg (by omega), a2.2 _ (by omega)]; exact s1
    · rw [kf.2 _ (by omega)]; exact ra
    · rw [l2.2.1 _ (by omega)]; exact rb
    · rw [l2.2.1 _ (by omega), row_ne (by decide), hG.2.1 _ (by omega)]; exact s3
    · rw [kf.2 _ (by omega), row_ne (by omega), a2.2 _ (by omega)]; exact s4
theorem t_call {x : Nat} (hx : Rx n k s h Ps Mc Mm) (ht : t < 3) (hf : f < 5) (ha : Mc.1 (114 + 17 * t) 2 = nI (f + 1)) (hu : u < n) (hP : Ps u p (d + 1)) (ho : Mc.1 (31 + 15 * u + 4) p = nI 13) (hxu : x ≤ u) (c : cF Mc t f u p (d + 1) L S) (hk : kG t f Mm M1) (m : mF M1 t f u (p + 1) (d + 1) L S) : Turn n k s h Ps t f (nI 13) (nI x) Mc M1 Mc Mm := by
  obtain ⟨s1, s2, s3, s4, s5, -⟩ := SR_split (hx.2.2.2.2.2.2.2.2 t ht) ha hf
  have hn := hx.1.1
  obtain ⟨C1, a1, a2, a3⟩ := c_pop ht hf c
  obtain ⟨N1, e1, e2, e3⟩ := m_pop ht hf m
  have hG := kG_t hk e2
  have hL := Lo_k s5 (Nat.le_refl _) hn a2 hG
  have hac : C1.1 (114 + 17 * t) 2 = nI (f + 1) := by rw [a2.2 _ (by omega)]; exact ha
  have ham : N1.1 192 t = nI (f + 1) := by rw [hG.2.1 _ (by omega)]; exact s2
  by_cases hf4 : f = 4
  · subst hf4
    obtain ⟨Mc', Mm', g1, g2, g3, g4, g5⟩ := t_raise (v := -2) hx ht hf ha hu ⟨_, hP⟩ a2 hG a3 e3
    refine ⟨h, Mc', Mm', ?_, ?_, g3, g4, g5⟩
    · unfold pB f_Machine_callMethod f_Strand_isDeep
      rw [if_neg (by decide), if_neg (by decide), if_neg (by decide), if_neg (by decide), if_neg (by decide), if_pos (by decide), ck_e (cl_f t ht 4 hf), ob_e, a1, bd_e, ck_e cl_1, ob_e, ck_e (cl_t t ht), ob_e, gi_e (cl_t t ht), ob_e, hac, if_neg (by decide), bd_e, if_neg (by decide), ob_e, g1, ob_e, ob_e]
    · unfold eB f_Mo_take j_Mo_take_11 j_Mo_take_30 j_Mo_take_49 j_Mo_take_90 j_Mo_take_103
      rw [if_neg (by decide), if_neg (by decide), if_neg (by decide), if_pos (by decide), if_neg (by decide), if_neg (by decide), if_neg (by decide), ck_e cl_174, ob_e, e1, bd_e, ob_e, if_neg (by decide), if_neg (by decide), if_neg (by decide), if_pos (by decide), gr_174_25, ob_e, ai_n an_192 ht (by decide), ob_e, ham, if_pos (by decide), ob_e, g2, ob_e, if_neg (by decide), if_neg (by decide), ob_e]
  · have hf3 : f + 1 < 5 := by omega
    obtain ⟨C2, c1, c2, c3, c4, c5, c6, c7, c8⟩ := e_enter (m := nI x) (x := S d) ht hac hf3
    obtain ⟨N2, d1, d2, d3, d4, d5, d6, d7, d8⟩ := e_menter (m := nI x) (x := S d) ht ham hf3
    have kc : kC t Mc C2 := kC_t (kC_F hf a2) ⟨c2, fun q hq => c3 q (by omega)⟩
    have km : kM t Mm N2 := by
      refine kM_t (kM_G hf hG) ⟨d2, fun q hq => d3 q (by omega), fun q y z j hj => ?_, fun q y z j hj => ?_, fun j hj => ?_, fun j hj => by rw [d3 199 (by omega)]⟩
      · by_cases h9 : q = 192
        · subst h9; rw [d4, if_neg hj]
        · rw [d3 q (by omega)]
      · rcases (show q = 195 ∨ q = 196 ∨ q = 197 by omega) with h9 | h9 | h9 <;> subst h9
        · rw [d5, if_neg (by omega)]
        · rw [d6, if_neg (by omega)]
        · rw [d7, if_neg (by omega)]
      · rw [d8, if_neg (by omega), if_neg (by omega)]
    have mv : ∀ {f' p' pm d' u' : Nat}, f' ≤ f → FR C1 N1 t f' p' pm d' u' → FR C2 N2 t f' p' pm d' u' := by
      intro f' p' pm d' u' hf' hfr
      exact FR_c hfr (c3 _ (by omega)) (c3 _ (by omega)) (c3 _ (by omega)) (by rw [d5, if_neg (by omega)]) (by rw [d6, if_neg (by omega)]) (by rw [d7, if_neg (by omega)]) (fun j hj => by rw [d8, if_neg (by omega), if_neg (by omega)]) (fun j hj => by rw [d3 199 (by omega)])
    refine ⟨h, C2, N2, ?_, ?_, Rx_t ht hx kc km (SR_mk (f := f + 1) (p := 0) (d := 0) (u := x) hf3 ?_ ?_ ?_ ?_ ?_ (fun f' hf' => ?_) ⟨c5, c6, c7, ?_, ?_, ?_, fun j hj => ?_, fun j hj => absurd hj (Nat.not_lt_zero _), by decide⟩ (by omega) ?_), otC_k ht kc, otM_k km⟩
    · unfold pB f_Machine_callMethod f_Strand_isDeep
      rw [if_neg (by decide), if_neg (by decide), if_neg (by decide), if_neg (by decide), if_neg (by decide), if_pos (by decide), ck_e (cl_f t ht f hf), ob_e, a1, bd_e, ck_e cl_1, ob_e, ck_e (cl_t t ht), ob_e, gi_e (cl_t t ht), ob_e, hac, if_pos (show nI (f + 1) < 5 from nI_lt (b := 5) hf3 (by decide)), bd_e, if_pos rfl, ob_e, c1, ob_e, ob_e]
    · unfold eB f_Mo_take j_Mo_take_11 j_Mo_take_30 j_Mo_take_49 j_Mo_take_75 j_Mo_take_90 j_Mo_take_103
      rw [if_neg (by decide), if_neg (by decide), if_neg (by decide), if_pos (by decide), if_neg (by decide), if_neg (by decide), if_neg (by decide), ck_e cl_174, ob_e, e1, bd_e, ob_e, if_neg (by decide), if_neg (by decide), if_neg (by decide), if_pos (by decide), gr_174_25, ob_e, ai_n an_192 ht (by decide), ob_e, ham, if_neg (show ¬ nI (f + 1) = 5 from fun h9 => by have := (nI_eq (b := 5) (by omega) (by decide)).mp h9; omega), if_pos (by decide), ob_e, d1, ob_e, if_neg (by decide), if_neg (by decide), ob_e]
    · rw [c4, if_neg (by decide), a2.2 _ (by omega)]; exact s1
    · rw [c4, if_pos rfl]
    · rw [d4, if_pos rfl]
    · rw [d3 193 (by omega), hG.2.1 _ (by omega)]; exact s3
    · rw [c3 0 (by omega), a2.2 _ (by omega)]; exact s4
    · by_cases hff : f' = f
      · subst hff
        refine ⟨p, d, u, mv (Nat.le_refl _) (FR_j a3 e3), hu, hP, ?_⟩
        rw [c3 _ (by omega), a2.2 _ (by omega), show 35 + 15 * u = 31 + 15 * u + 4 by omega]
        exact ho
      · obtain ⟨p', d', u', k1, k2, k3, k4⟩ := hL f' (by omega)
        refine ⟨p', d', u', mv (by omega) k1, k2, k3, ?_⟩
        rw [c3 _ (by omega)]
        exact k4
    · rw [d5, if_pos rfl]
    · rw [d6, if_pos rfl]; rfl
    · rw [d7, if_pos rfl]; rfl
    · rw [c8 j hj, d8]
      by_cases hj0 : j = 0
      · rw [if_pos hj0, if_pos (by omega)]
      · rw [if_neg hj0, if_neg (by omega), if_pos (by omega)]
    · obtain ⟨wl', r', hw⟩ := Wm_of hx.2.2.2.1 (show x < n by omega)
      exact hw.2.2.2.2.2.2.2.1
end TURN
