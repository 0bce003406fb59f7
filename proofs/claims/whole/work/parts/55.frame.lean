/-! one active method, on each side -/
def cF (M : fm_M) (t f u p d : Nat) (L S : Nat → Int32) : Prop := M.1 (116 + 17 * t + 3 * f) 2 = nI u ∧ M.1 (116 + 17 * t + 3 * f) 3 = nI p ∧ M.1 (116 + 17 * t + 3 * f) 4 = nI d ∧ (∀ j, j < 4 → M.1 (116 + 17 * t + 3 * f + 1) j = L j) ∧ (∀ j, j < d → M.1 (116 + 17 * t + 3 * f + 2) j = S j) ∧ d ≤ 5
def mF (M : fm_M) (t f u p d : Nat) (L S : Nat → Int32) : Prop := M.1 195 (5 * t + f) = nI u ∧ M.1 196 (5 * t + f) = nI p ∧ M.1 197 (5 * t + f) = nI d ∧ (∀ j, j < 4 → M.1 198 (4 * (5 * t + f) + j) = L j) ∧ (∀ j, j < d → M.1 199 (6 * (5 * t + f) + j) = S j) ∧ d ≤ 5
def up (S : Nat → Int32) (d : Nat) (v : Int32) : Nat → Int32 := fun j => if j = d then v else S j
def kF (t f : Nat) (M M' : fm_M) : Prop := M'.2 = M.2 ∧ ∀ q, ¬ (q = 116 + 17 * t + 3 * f ∨ q = 116 + 17 * t + 3 * f + 1 ∨ q = 116 + 17 * t + 3 * f + 2) → M'.1 q = M.1 q
def kG (t f : Nat) (M M' : fm_M) : Prop := M'.2 = M.2 ∧ (∀ q, ¬ (q = 196 ∨ q = 197 ∨ q = 198 ∨ q = 199) → M'.1 q = M.1 q) ∧ (∀ j, j ≠ 5 * t + f → M'.1 196 j = M.1 196 j ∧ M'.1 197 j = M.1 197 j) ∧ (∀ j, ¬ (4 * (5 * t + f) ≤ j ∧ j < 4 * (5 * t + f) + 4) → M'.1 198 j = M.1 198 j) ∧ ∀ j, ¬ (6 * (5 * t + f) ≤ j ∧ j < 6 * (5 * t + f) + 6) → M'.1 199 j = M.1 199 j
section FRAME2
variable {t f u p pm d : Nat} {M M1 M2 Mc Mm : fm_M} {L S : Nat → Int32}
theorem FR_s (h : FR Mc Mm t f p pm d u) : ∃ L S, cF Mc t f u p d L S ∧ mF Mm t f u pm d L S := by
  obtain ⟨a, b, c, d1, e, g, i, j, z⟩ := h
  exact ⟨fun j => Mc.1 (116 + 17 * t + 3 * f + 1) j, fun j => Mc.1 (116 + 17 * t + 3 * f + 2) j, ⟨a, b, c, fun _ _ => rfl, fun _ _ => rfl, z⟩, d1, e, g, fun k hk => (i k hk).symm, fun k hk => (j k hk).symm, z⟩
theorem FR_j (hc : cF Mc t f u p d L S) (hm : mF Mm t f u pm d L S) : FR Mc Mm t f p pm d u := by
  obtain ⟨a1, a2, a3, a4, a5, a6⟩ := hc
  obtain ⟨b1, b2, b3, b4, b5, b6⟩ := hm
  exact ⟨a1, a2, a3, b1, b2, b3, fun j hj => (a4 j hj).trans (b4 j hj).symm, fun j hj => (a5 j hj).trans (b5 j hj).symm, a6⟩
theorem kF_r : kF t f M M := ⟨rfl, fun _ _ => rfl⟩
theorem kG_r : kG t f M M := ⟨rfl, fun _ _ => rfl, fun _ _ => ⟨rfl, rfl⟩, fun _ _ => rfl, fun _ _ => rfl⟩
theorem kF_t (h1 : kF t f M M1) (h2 : kF t f M1 M2) : kF t f M M2 := ⟨h2.1.trans h1.1, fun q hq => (h2.2 q hq).trans (h1.2 q hq)⟩
theorem kG_t (h1 : kG t f M M1) (h2 : kG t f M1 M2) : kG t f M M2 := by
  obtain ⟨a1, a2, a3, a4, a5⟩ := h1
  obtain ⟨b1, b2, b3, b4, b5⟩ := h2
  exact ⟨b1.trans a1, fun q hq => (b2 q hq).trans (a2 q hq), fun j hj => ⟨(b3 j hj).1.trans (a3 j hj).1, (b3 j hj).2.trans (a3 j hj).2⟩, fun j hj => (b4 j hj).trans (a4 j hj), fun j hj => (b5 j hj).trans (a5 j hj)⟩
/-- a write into the method's own cells -/
theorem kF_w {q j : Nat} {v : Int32} (hq : q = 116 + 17 * t + 3 * f ∨ q = 116 + 17 * t + 3 * f + 1 ∨ q = 116 + 17 * t + 3 * f + 2) : kF t f M (fm_sI M q j v) := ⟨rfl, fun k hk => row_ne (fun e => hk (by rw [e]; exact hq))⟩
theorem kG_6 {v : Int32} : kG t f M (fm_sI M 196 (5 * t + f) v) := ⟨rfl, fun q hq => row_ne (by omega), fun j hj => ⟨by rw [sI_r, if_neg (by omega)], by rw [sI_r, if_neg (by omega)]⟩, fun j hj => by rw [sI_r, if_neg (by omega)], fun j hj => by rw [sI_r, if_neg (by omega)]⟩
theorem kG_7 {v : Int32} : kG t f M (fm_sI M 197 (5 * t + f) v) := ⟨rfl, fun q hq => row_ne (by omega), fun j hj => ⟨by rw [sI_r, if_neg (by omega)], by rw [sI_r, if_neg (by omega)]⟩, fun j hj => by rw [sI_r, if_neg (by omega)], fun j hj => by rw [sI_r, if_neg (by omega)]⟩
theorem kG_8 {x : Nat} {v : Int32} (hx : x < 4) : kG t f M (fm_sI M 198 (4 * (5 * t + f) + x) v) := ⟨rfl, fun q hq => row_ne (by omega), fun j hj => ⟨by rw [sI_r, if_neg (by omega)], by rw [sI_r, if_neg (by omega)]⟩, fun j hj => by rw [sI_r, if_neg (by omega)], fun j hj => by rw [sI_r, if_neg (by omega)]⟩
theorem kG_9 {x : Nat} {v : Int32} (hx : x < 6) : kG t f M (fm_sI M 199 (6 * (5 * t + f) + x) v) := ⟨rfl, fun q hq => row_ne (by omega), fun j hj => ⟨by rw [sI_r, if_neg (by omega)], by rw [sI_r, if_neg (by omega)]⟩, fun j hj => by rw [sI_r, if_neg (by omega)], fun j hj => by rw [sI_r, if_neg (by omega)]⟩
theorem c_push {v : Int32} (ht : t < 3) (hf : f < 5) (h : cF M t f u p d L S) (h5 : d < 5) : ∃ M', f_Frame_push (116 + 17 * t + 3 * f) v M = some M' ∧ kF t f M M' ∧ cF M' t f u p (d + 1) L (up S d v) := by
  obtain ⟨a1, a2, a3, a4, a5, a6⟩ := h
  refine ⟨_, e_push ht hf a3 h5, kF_t (kF_w (by omega)) (kF_w (by omega)), ?_, ?_, ?_, fun j hj => ?_, fun j hj => ?_, by omega⟩
  · rw [sI_r, if_neg (by omega), sI_r, if_neg (by omega)]; exact a1
  · rw [sI_r, if_neg (by omega), sI_r, if_neg (by omega)]; exact a2
  · rw [sI_r, if_pos ⟨rfl, rfl⟩]
  · rw [sI_r, if_neg (by omega), sI_r, if_neg (by omega)]; exact a4 j hj
  · rw [sI_r, if_neg (by omega), sI_r]
    show _ = if j = d then v else S j
    by_cases hjd : j = d
    · rw [if_pos ⟨rfl, hjd⟩, if_pos hjd]
    · rw [if_neg (fun h => hjd h.2), if_neg hjd]; exact a5 j (by omega)
theorem c_pop (ht : t < 3) (hf : f < 5) (h : cF M t f u p (d + 1) L S) : ∃ M', f_Frame_pop (116 + 17 * t + 3 * f) M = some (S d, M') ∧ kF t f M M' ∧ cF M' t f u p d L S := by
  obtain ⟨a1, a2, a3, a4, a5, a6⟩ := h
  refine ⟨_, by rw [e_pop ht hf a3 (by omega), a5 d (by omega)], kF_w (by omega), ?_, ?_, ?_, fun j hj => ?_, fun j hj => ?_, by omega⟩
  · rw [sI_r, if_neg (by omega)]; exact a1
  · rw [sI_r, if_neg (by omega)]; exact a2
  · rw [sI_r, if_pos ⟨rfl, rfl⟩]
  · rw [sI_r, if_neg (by omega)]; exact a4 j hj
  · rw [sI_r, if_neg (by omega)]; exact a5 j (by omega)
theorem c_at {p' : Nat} (ht : t < 3) (hf : f < 5) (h : cF M t f u p d L S) : ∃ M', pi (116 + 17 * t + 3 * f) 2 3 (nI p') M = some M' ∧ kF t f M M' ∧ cF M' t f u p' d L S := by
  obtain ⟨a1, a2, a3, a4, a5, a6⟩ := h
  refine ⟨_, pi_e (cl_f t ht f hf), kF_w (by omega), ?_, ?_, ?_, fun j hj => ?_, fun j hj => ?_, by omega⟩
  · rw [sI_r, if_neg (by omega)]; exact a1
  · rw [sI_r, if_pos ⟨rfl, rfl⟩]
  · rw [sI_r, if_neg (by omega)]; exact a3
  · rw [sI_r, if_neg (by omega)]; exact a4 j hj
  · rw [sI_r, if_neg (by omega)]; exact a5 j (by omega)
theorem c_loc {x : Nat} {v : Int32} (ht : t < 3) (hf : f < 5) (hx : x < 4) (h : cF M t f u p d L S) : ∃ M', si (116 + 17 * t + 3 * f + 1) (nI x) v M = some M' ∧ kF t f M M' ∧ cF M' t f u p d (up L x v) S := by
  obtain ⟨a1, a2, a3, a4, a5, a6⟩ := h
  refine ⟨_, si_n (an_f0 t ht f hf) hx (by decide), kF_w (by omega), ?_, ?_, ?_, fun j hj => ?_, fun j hj => ?_, by omega⟩
  · rw [sI_r, if_neg (by omega)]; exact a1
  · rw [sI_r, if_neg (by omega)]; exact a2
  · rw [sI_r, if_neg (by omega)]; exact a3
  · rw [sI_r]
    show _ = if j = x then v else L j
    by_cases hjd : j = x
    · rw [if_pos ⟨rfl, hjd⟩, if_pos hjd]
    · rw [if_neg (fun h => hjd h.2), if_neg hjd]; exact a4 j hj
  · rw [sI_r, if_neg (by omega)]; exact a5 j (by omega)
/-- at, one further -/
theorem c_on (ht : t < 3) (hf : f < 5) (h : cF M t f u p d L S) : ∃ M', ((gi (116 + 17 * t + 3 * f) 2 3 M).bind fun x => (pi (116 + 17 * t + 3 * f) 2 3 (x + 1) M).bind fun M' => some M') = some M' ∧ kF t f M M' ∧ cF M' t f u (p + 1) d L S := by
  obtain ⟨M', g1, g2, g3⟩ := c_at (p' := p + 1) ht hf h
  refine ⟨M', ?_, g2, g3⟩
  rw [gi_e (cl_f t ht f hf), ob_e, h.2.1, nI_1, g1, ob_e]
theorem m_push {v : Int32} (ht : t < 3) (hf : f < 5) (h : mF M t f u p d L S) (h5 : d < 5) : ∃ M', f_Mo_push 174 (nI (5 * t + f)) v M = some M' ∧ kG t f M M' ∧ mF M' t f u p (d + 1) L (up S d v) := by
  obtain ⟨a1, a2, a3, a4, a5, a6⟩ := h
  have e1 : (fm_sI M 199 (6 * (5 * t + f) + d) v).1 197 (5 * t + f) = nI d := by rw [sI_r, if_neg (by omega)]; exact a3
  refine ⟨fm_sI (fm_sI M 199 (6 * (5 * t + f) + d) v) 197 (5 * t + f) (nI (d + 1)), ?_, kG_t (kG_9 (by omega)) kG_7, ?_, ?_, ?_, fun j hj => ?_, fun j hj => ?_, by omega⟩
  · unfold f_Mo_push
    rw [gr_174_32, ob_e, gr_174_30, ob_e, ai_n an_197 (by omega) (by decide), ob_e, a3, show (6 : Int32) * nI (5 * t + f) = nI (6 * (5 * t + f)) from nI_mul 6 _, nI_add, si_n an_199 (by omega) (by decide), ob_e, ob_e, ai_n an_197 (by omega) (by decide), ob_e, e1, nI_1, si_n an_197 (by omega) (by decide), ob_e]
  · rw [sI_r, if_neg (by omega), sI_r, if_neg (by omega)]; exact a1
  · rw [sI_r, if_neg (by omega), sI_r, if_neg (by omega)]; exact a2
  · rw [sI_r, if_pos ⟨rfl, rfl⟩]
  · rw [sI_r, if_neg (by omega), sI_r, if_neg (by omega)]; exact a4 j hj
  · rw [sI_r, if_neg (by omega), sI_r]
    show _ = if j = d then v else S j
    by_cases hjd : j = d
    · rw [if_pos ⟨rfl, by omega⟩, if_pos hjd]
    · rw [if_neg (by omega), if_neg hjd]; exact a5 j (by omega)
theorem m_pop (ht : t < 3) (hf : f < 5) (h : mF M t f u p (d + 1) L S) : ∃ M', f_Mo_pop 174 (nI (5 * t + f)) M = some (S d, M') ∧ kG t f M M' ∧ mF M' t f u p d L S := by
  obtain ⟨a1, a2, a3, a4, a5, a6⟩ := h
  have e1 : (fm_sI M 197 (5 * t + f) (nI d)).1 197 (5 * t + f) = nI d := by rw [sI_r, if_pos ⟨rfl, rfl⟩]
  have e2 : (fm_sI M 197 (5 * t + f) (nI d)).1 199 (6 * (5 * t + f) + d) = S d := by rw [sI_r, if_neg (by omega)]; exact a5 d (by omega)
  refine ⟨fm_sI M 197 (5 * t + f) (nI d), ?_, kG_7, ?_, ?_, ?_, fun j hj => ?_, fun j hj => ?_, by omega⟩
  · unfold f_Mo_pop
    rw [gr_174_30, ob_e, ai_n an_197 (by omega) (by decide), ob_e, a3, nI_pred, si_n an_197 (by omega) (by decide), ob_e, gr_174_32, ob_e, ob_e, ai_n an_197 (by omega) (by decide), ob_e, e1, show (6 : Int32) * nI (5 * t + f) = nI (6 * (5 * t + f)) from nI_mul 6 _, nI_add, ai_n an_199 (by omega) (by decide), ob_e, e2]
  · rw [sI_r, if_neg (by omega)]; exact a1
  · rw [sI_r, if_neg (by omega)]; exact a2
  · exact e1
  · rw [sI_r, if_neg (by omega)]; exact a4 j hj
  · rw [sI_r, if_neg (by omega)]; exact a5 j (by omega)
theorem m_at {p' : Nat} (ht : t < 3) (hf : f < 5) (h : mF M t f u p d L S) : ∃ M', si 196 (nI (5 * t + f)) (nI p') M = some M' ∧ kG t f M M' ∧ mF M' t f u p' d L S := by
  obtain ⟨a1, a2, a3, a4, a5, a6⟩ := h
  refine ⟨_, si_n an_196 (by omega) (by decide), kG_6, ?_, ?_, ?_, fun j hj => ?_, fun j hj => ?_, by omega⟩
  · rw [sI_r, if_neg (by omega)]; exact a1
  · rw [sI_r, if_pos ⟨rfl, rfl⟩]
  · rw [sI_r, if_neg (by omega)]; exact a3
  · rw [sI_r, if_neg (by omega)]; exact a4 j hj
  · rw [sI_r, if_neg (by omega)]; exact a5 j (by omega)
theorem m_loc {x : Nat} {v : Int32} (ht : t < 3) (hf : f < 5) (hx : x < 4) (h : mF M t f u p d L S) : ∃ M', si 198 ((4 : Int32) * nI (5 * t + f) + nI x) v M = some M' ∧ kG t f M M' ∧ mF M' t f u p d (up L x v) S := by
  obtain ⟨a1, a2, a3, a4, a5, a6⟩ := h
  refine ⟨fm_sI M 198 (4 * (5 * t + f) + x) v, ?_, kG_8 hx, ?_, ?_, ?_, fun j hj => ?_, fun j hj => ?_, by omega⟩
  · rw [show (4 : Int32) * nI (5 * t + f) = nI (4 * (5 * t + f)) from nI_mul 4 _, nI_add, si_n an_198 (by omega) (by decide)]
  · rw [sI_r, if_neg (by omega)]; exact a1
  · rw [sI_r, if_neg (by omega)]; exact a2
  · rw [sI_r, if_neg (by omega)]; exact a3
  · rw [sI_r]
    show _ = if j = x then v else L j
    by_cases hjd : j = x
    · rw [if_pos ⟨rfl, by omega⟩, if_pos hjd]
    · rw [if_neg (by omega), if_neg hjd]; exact a4 j hj
  · rw [sI_r, if_neg (by omega)]; exact a5 j (by omega)
end FRAME2
