/-! what an instruction does: the class -/
def pB (t f : Nat) (o a : Int32) (M : fm_M) : Option fm_M :=
  if o = 8 then
    (ck (116 + 17 * t + 3 * f) 2).bind fun _ =>
    (f_Frame_branch (116 + 17 * t + 3 * f) o a M).bind fun M127 =>
    some M127
  else
  if o = 9 then
    (ck (116 + 17 * t + 3 * f) 2).bind fun _ =>
    (f_Frame_branch (116 + 17 * t + 3 * f) o a M).bind fun M131 =>
    some M131
  else
  if o = 10 then
    (ck (116 + 17 * t + 3 * f) 2).bind fun _ =>
    (f_Frame_branch (116 + 17 * t + 3 * f) o a M).bind fun M135 =>
    some M135
  else
  if o = 11 then
    (gr 1 5 0).bind fun q138 =>
    (ck q138 8).bind fun _ =>
    bd (f_Types_sizeOf q138 a M) fun x143 M141 =>
    (ck 1 5).bind fun _ =>
    (f_Machine_make 1 (114 + 17 * t) x143.toInt64 M141).bind fun M145 =>
    some M145
  else
  if o = 12 then
    (ck (116 + 17 * t + 3 * f) 2).bind fun _ =>
    bd (f_Frame_pop (116 + 17 * t + 3 * f) M) fun x151 M149 =>
    bd (f_Machine_arraySize x151 a M149) fun x154 M152 =>
    (ck 1 5).bind fun _ =>
    (f_Machine_make 1 (114 + 17 * t) x154 M152).bind fun M156 =>
    some M156
  else
  if o = 13 then
    (ck (116 + 17 * t + 3 * f) 2).bind fun _ =>
    bd (f_Frame_pop (116 + 17 * t + 3 * f) M) fun x162 M160 =>
    (ck 1 5).bind fun _ =>
    (f_Machine_callMethod 1 (114 + 17 * t) a x162 M160).bind fun M164 =>
    some M164
  else
  if o = 14 then
    (ck (116 + 17 * t + 3 * f) 2).bind fun _ =>
    bd (f_Frame_pop (116 + 17 * t + 3 * f) M) fun x170 M168 =>
    (ck 1 5).bind fun _ =>
    (f_Machine_giveBack 1 (114 + 17 * t) x170 M168).bind fun M172 =>
    some M172
  else
  if o = 15 then
    (ck (116 + 17 * t + 3 * f) 2).bind fun _ =>
    bd (f_Frame_pop (116 + 17 * t + 3 * f) M) fun x178 M176 =>
    (ck 1 5).bind fun _ =>
    (f_Machine_raise 1 (114 + 17 * t) x178 M176).bind fun M180 =>
    some M180
  else
    (ck (116 + 17 * t + 3 * f) 2).bind fun _ =>
    (f_Frame_compute (116 + 17 * t + 3 * f) o a M).bind fun M183 =>
    some M183
/-- the reference -/
def eB (t f : Nat) (o a : Int32) (M : fm_M) : Option fm_M :=
  if o = 0 then
    (ck 174 10).bind fun _ =>
    (f_Mo_push 174 (nI (5 * t + f)) a M).bind fun M186 =>
    some M186
  else
    if o = 1 then
      (gr 174 10 31).bind fun q178 =>
      (ai q178 ((4 * nI (5 * t + f)) + a) M).bind fun x180 =>
      (ck 174 10).bind fun _ =>
      (f_Mo_push 174 (nI (5 * t + f)) x180 M).bind fun M183 =>
      some M183
    else
      if o = 2 then
        (gr 174 10 31).bind fun q170 =>
        (ck 174 10).bind fun _ =>
        bd (f_Mo_pop 174 (nI (5 * t + f)) M) fun x175 M173 =>
        (si q170 ((4 * nI (5 * t + f)) + a) x175 M173).bind fun M176 =>
        some M176
      else
        if 6 ≤ o then
          if o = 6 then
            (gr 174 10 32).bind fun q152 =>
            (gr 174 10 30).bind fun q154 =>
            (ai q154 (nI (5 * t + f)) M).bind fun x156 =>
            (ai q152 (((6 * nI (5 * t + f)) + x156) - 1) M).bind fun x158 =>
            (ck 174 10).bind fun _ =>
            (f_Mo_push 174 (nI (5 * t + f)) x158 M).bind fun M161 =>
            some M161
          else
            if o = 11 then
              (gr 174 10 3).bind fun q145 =>
              (ai q145 a M).bind fun x147 =>
              (ck 174 10).bind fun _ =>
              (f_Mo_allocate 174 (nI t) (nI (5 * t + f)) x147.toInt64 M).bind fun M150 =>
              some M150
            else
              if o = 8 then
                (gr 174 10 29).bind fun q141 =>
                (si q141 (nI (5 * t + f)) a M).bind fun M143 =>
                some M143
              else
                (ck 174 10).bind fun _ =>
                bd (f_Mo_pop 174 (nI (5 * t + f)) M) fun x137 M135 =>
                (ck 174 10).bind fun _ =>
                (f_Mo_take 174 (nI t) (nI (5 * t + f)) o a x137 M135).bind fun M139 =>
                some M139
        else
          (ck 174 10).bind fun _ =>
          bd (f_Mo_pop 174 (nI (5 * t + f)) M) fun x166 M164 =>
          (ck 174 10).bind fun _ =>
          (f_Mo_reckon 174 (nI (5 * t + f)) o x166 M164).bind fun M168 =>
          some M168
section OPS
variable {t f u p d : Nat} {M Mc Mm : fm_M} {L S : Nat → Int32}
theorem e_top (ht : t < 3) (hf : f < 5) (ha : M.1 (114 + 17 * t) 2 = nI (f + 1)) : f_Strand_top (114 + 17 * t) M = some (116 + 17 * t + 3 * f, M) := by
  unfold f_Strand_top
  rw [gr_t0 t ht, ob_e, gi_e (cl_t t ht), ob_e, ha, if_neg (nI_nle (by omega) (by omega)), ob_e, nI_pred, ar_f t ht f hf, ob_e]
theorem e_codeOf (ht : t < 3) (hf : f < 5) (hu : u < 6) (h : M.1 (116 + 17 * t + 3 * f) 2 = nI u) : f_Machine_codeOf 1 (116 + 17 * t + 3 * f) M = some (31 + 15 * u, M) := by
  unfold f_Machine_codeOf
  rw [gr_1_1, ob_e, gi_e (cl_f t ht f hf), ob_e, h, ar_m u hu, ob_e, gr_m1 u hu, ob_e]
theorem e_perf {wl : Nat} (ht : t < 3) (hf : f < 5) (hu : u < 6) (ha : M.1 (114 + 17 * t) 2 = nI (f + 1)) (h2 : M.1 (116 + 17 * t + 3 * f) 2 = nI u) (h3 : M.1 (116 + 17 * t + 3 * f) 3 = nI p) (hl : M.1 (31 + 15 * u) 5 = nI wl) (hw : wl ≤ 28) (hp : p < wl) : f_Machine_perform 1 (114 + 17 * t) M = pB t f (M.1 (31 + 15 * u + 4) p) (M.1 (31 + 15 * u + 5) p) M := by
  unfold f_Machine_perform
  rw [ck_e (cl_t t ht), ob_e, e_top ht hf ha, bd_e, ck_e cl_1, ob_e, e_codeOf ht hf hu h2, bd_e, gi_e (cl_f t ht f hf), ob_e, h3, ck_e (cd_w u hu).1, ob_e, e_op1 (cd_w u hu) hl (by decide) hw hp, bd_e, ob_e, e_codeOf ht hf hu h2, bd_e, gi_e (cl_f t ht f hf), ob_e, h3, ck_e (cd_w u hu).1, ob_e, e_ar1 (cd_w u hu) hl (by decide) hw hp, bd_e]
  rfl
theorem e_exec (ht : t < 3) (hf : f < 5) (hu : u < 6) (hp : p < 28) (ha : M.1 192 t = nI (f + 1)) (h2 : M.1 195 (5 * t + f) = nI u) (h3 : M.1 196 (5 * t + f) = nI p) : f_Mo_execute 174 (nI t) M = eB t f (M.1 187 (28 * u + p)) (M.1 188 (28 * u + p)) (fm_sI M 196 (5 * t + f) (nI (p + 1))) := by
  have hF : (((5 : Int32) * nI t) + nI (f + 1)) - 1 = nI (5 * t + f) := by rw [show (5 : Int32) * nI t = nI (5 * t) from nI_mul 5 t, nI_add, show 5 * t + (f + 1) = 5 * t + f + 1 from rfl, nI_pred]
  have hK : ((28 : Int32) * nI u) + nI p = nI (28 * u + p) := by rw [show (28 : Int32) * nI u = nI (28 * u) from nI_mul 28 u, nI_add]
  unfold f_Mo_execute
  rw [gr_174_25, ob_e, ai_n an_192 ht (by decide), ob_e, ha, hF, gr_174_28, ob_e, ai_n an_195 (by omega) (by decide), ob_e, h2, gr_174_29, ob_e, ai_n an_196 (by omega) (by decide), ob_e, h3, hK, gr_174_19, ob_e, ai_n an_187 (by omega) (by decide), ob_e, gr_174_20, ob_e, ai_n an_188 (by omega) (by decide), ob_e, ob_e, ai_n an_196 (by omega) (by decide), ob_e, h3, nI_1, si_n an_196 (by omega) (by decide), ob_e]
  rfl
theorem pB_c {o a : Int32} (ht : t < 3) (hf : f < 5) (h : ¬ o = 8 ∧ ¬ o = 9 ∧ ¬ o = 10 ∧ ¬ o = 11 ∧ ¬ o = 12 ∧ ¬ o = 13 ∧ ¬ o = 14 ∧ ¬ o = 15) : pB t f o a M = (f_Frame_compute (116 + 17 * t + 3 * f) o a M).bind fun M183 => some M183 := by
  obtain ⟨h1, h2, h3, h4, h5, h6, h7, h8⟩ := h
  unfold pB
  rw [if_neg h1, if_neg h2, if_neg h3, if_neg h4, if_neg h5, if_neg h6, if_neg h7, if_neg h8, ck_e (cl_f t ht f hf), ob_e]
theorem bindself (x : Option fm_M) : (x.bind fun y => some y) = x := by cases x <;> rfl
/-- an instruction that stays in its method -/
def stay (t f u p d o : Nat) (a : Int32) (Mc Mm : fm_M) : Prop := ∃ Mc' Mm' p' d' L' S', pB t f (nI o) a Mc = some Mc' ∧ eB t f (nI o) a Mm = some Mm' ∧ kF t f Mc Mc' ∧ kG t f Mm Mm' ∧ cF Mc' t f u p' d' L' S' ∧ mF Mm' t f u p' d' L' S' ∧ d' = d - tkN o + ptN o ∧ ((p' = p + 1 ∧ o ≠ 8) ∨ ((o = 8 ∨ o = 9 ∨ o = 10) ∧ a = nI p' ∧ p' < 1000))
theorem st_0 {a : Int32} (ht : t < 3) (hf : f < 5) (hc : cF Mc t f u p d L S) (hm : mF Mm t f u (p + 1) d L S) (h5 : d < 5) : stay t f u p d 0 a Mc Mm := by
  obtain ⟨M1, a1, a2, a3⟩ := c_push (v := a) ht hf hc h5
  obtain ⟨M2, b1, b2, b3⟩ := c_on ht hf a3
  obtain ⟨M3, c1, c2, c3⟩ := m_push (v := a) ht hf hm h5
  refine ⟨M2, M3, p + 1, d + 1, _, _, ?_, ?_, kF_t a2 b2, c2, b3, c3, rfl, Or.inl ⟨rfl, by decide⟩⟩
  · rw [pB_c ht hf (by decide), bindself]
    unfold f_Frame_compute
    rw [if_pos (by decide), ck_e (cl_f t ht f hf), ob_e, a1, ob_e]
    exact b1
  · unfold eB
    rw [if_pos (by decide), ck_e cl_174, ob_e, c1, ob_e]
theorem e_loc {x : Nat} (hx : x < 4) : f_AP_isLocal (nI x) M = some (1, M) := by
  unfold f_AP_isLocal
  rw [if_neg (nI_pos (by omega)), if_neg (show ¬ 4 ≤ nI x from nI_ge (b := 4) hx (by decide))]
theorem st_1 {x : Nat} (hx : x < 4) (ht : t < 3) (hf : f < 5) (hc : cF Mc t f u p d L S) (hm : mF Mm t f u (p + 1) d L S) (h5 : d < 5) : stay t f u p d 1 (nI x) Mc Mm := by
  obtain ⟨M1, a1, a2, a3⟩ := c_push (v := L x) ht hf hc h5
  obtain ⟨M2, b1, b2, b3⟩ := c_on ht hf a3
  obtain ⟨M3, c1, c2, c3⟩ := m_push (v := L x) ht hf hm h5
  refine ⟨M2, M3, p + 1, d + 1, _, _, ?_, ?_, kF_t a2 b2, c2, b3, c3, rfl, Or.inl ⟨rfl, by decide⟩⟩
  · rw [pB_c ht hf (by decide), bindself]
    unfold f_Frame_compute
    rw [if_neg (by decide), if_pos (by decide), e_loc hx, bd_e, if_neg (by decide), gr_f0 t ht f hf, ob_e, ai_n (an_f0 t ht f hf) hx (by decide), ob_e, hc.2.2.2.1 x hx]
    unfold j_Frame_compute_74
    rw [ck_e (cl_f t ht f hf), ob_e, a1, ob_e]
    exact b1
  · unfold eB
    rw [if_neg (by decide), if_pos (by decide), gr_174_31, ob_e, show (4 : Int32) * nI (5 * t + f) = nI (4 * (5 * t + f)) from nI_mul 4 _, nI_add, ai_n an_198 (by omega) (by decide), ob_e, ck_e cl_174, ob_e, hm.2.2.2.1 x hx, c1, ob_e]
theorem st_2 {x : Nat} (hx : x < 4) (ht : t < 3) (hf : f < 5) (hc : cF Mc t f u p (d + 1) L S) (hm : mF Mm t f u (p + 1) (d + 1) L S) : stay t f u p (d + 1) 2 (nI x) Mc Mm := by
  obtain ⟨M1, a1, a2, a3⟩ := c_pop ht hf hc
  obtain ⟨M2, b1, b2, b3⟩ := c_loc (v := S d) ht hf hx a3
  obtain ⟨M3, c1, c2, c3⟩ := c_on ht hf b3
  obtain ⟨M4, d1, d2, d3⟩ := m_pop ht hf hm
  obtain ⟨M5, e1, e2, e3⟩ := m_loc (v := S d) ht hf hx d3
  refine ⟨M3, M5, p + 1, d, _, _, ?_, ?_, kF_t (kF_t a2 b2) c2, kG_t d2 e2, c3, e3, rfl, Or.inl ⟨rfl, by decide⟩⟩
  · rw [pB_c ht hf (by decide), bindself]
    unfold f_Frame_compute f_Frame_store
    rw [if_neg (by decide), if_neg (by decide), if_pos (by decide), ck_e (cl_f t ht f hf), ob_e, a1, bd_e, ob_e, e_loc hx, bd_e, if_neg (by decide), gr_f0 t ht f hf, ob_e, b1, ob_e, ob_e]
    exact c1
  · unfold eB
    rw [if_neg (by decide), if_neg (by decide), if_pos (by decide), gr_174_31, ob_e, ck_e cl_174, ob_e, d1, bd_e, e1, ob_e]
theorem st_345 {o : Nat} {a : Int32} (ho : o = 3 ∨ o = 4 ∨ o = 5) (ht : t < 3) (hf : f < 5) (hc : cF Mc t f u p (d + 2) L S) (hm : mF Mm t f u (p + 1) (d + 2) L S) : stay t f u p (d + 2) o a Mc Mm := by
  obtain ⟨M1, a1, a2, a3⟩ := c_pop ht hf hc
  obtain ⟨M2, b1, b2, b3⟩ := c_pop ht hf a3
  obtain ⟨M3, c1, c2, c3⟩ := c_push (v := if o = 3 then S d + S (d + 1) else if o = 4 then S d - S (d + 1) else S d * S (d + 1)) ht hf b3 (by have := hc.2.2.2.2.2; omega)
  obtain ⟨M4, d1, d2, d3⟩ := c_on ht hf c3
  obtain ⟨N1, e1, e2, e3⟩ := m_pop ht hf hm
  obtain ⟨N2, f1, f2, f3⟩ := m_pop ht hf e3
  obtain ⟨N3, g1, g2, g3⟩ := m_push (v := if o = 3 then S d + S (d + 1) else if o = 4 then S d - S (d + 1) else S d * S (d + 1)) ht hf f3 (by have := hc.2.2.2.2.2; omega)
  refine ⟨M4, N3, p + 1, d + 1, _, _, ?_, ?_, kF_t (kF_t (kF_t a2 b2) c2) d2, kG_t (kG_t e2 f2) g2, d3, g3, ?_, Or.inl ⟨rfl, by omega⟩⟩
  · rcases ho with rfl | rfl | rfl
    · rw [pB_c ht hf (by decide), bindself]
      unfold f_Frame_compute f_Frame_combine
      rw [if_neg (by decide), if_neg (by decide), if_neg (by decide), if_pos (by decide), ck_e (cl_f t ht f hf), ob_e, ob_e, a1, bd_e, ob_e, b1, bd_e, if_pos (by decide), ob_e]
      rw [if_pos rfl] at c1
      rw [c1, ob_e, ob_e]
      exact d1
    · rw [pB_c ht hf (by decide), bindself]
      unfold f_Frame_compute f_Frame_combine
      rw [if_neg (by decide), if_neg (by decide), if_neg (by decide), if_neg (by decide), if_pos (by decide), ck_e (cl_f t ht f hf), ob_e, ob_e, a1, bd_e, ob_e, b1, bd_e, if_neg (by decide), if_pos (by decide), ob_e]
      rw [if_neg (by decide), if_pos rfl] at c1
      rw [c1, ob_e, ob_e]
      exact d1
    · rw [pB_c ht hf (by decide), bindself]
      unfold f_Frame_compute f_Frame_combine
      rw [if_neg (by decide), if_neg (by decide), if_neg (by decide), if_neg (by decide), if_neg (by decide), if_pos (by decide), ck_e (cl_f t ht f hf), ob_e, ob_e, a1, bd_e, ob_e, b1, bd_e, if_neg (by decide), if_neg (by decide), if_pos (by decide), ob_e]
      rw [if_neg (by decide), if_neg (by decide)] at c1
      rw [c1, ob_e, ob_e]
      exact d1
  · rcases ho with rfl | rfl | rfl
    · unfold eB f_Mo_reckon j_Mo_reckon_37
      rw [if_neg (by decide), if_neg (by decide), if_neg (by decide), if_neg (by decide), ck_e cl_174, ob_e, e1, bd_e, ob_e, ob_e, f1, bd_e, if_pos (by decide), ob_e]
      rw [if_pos rfl] at g1
      rw [g1, ob_e, ob_e]
    · unfold eB f_Mo_reckon j_Mo_reckon_37
      rw [if_neg (by decide), if_neg (by decide), if_neg (by decide), if_neg (by decide), ck_e cl_174, ob_e, e1, bd_e, ob_e, ob_e, f1, bd_e, if_neg (by decide), if_pos (by decide), ob_e]
      rw [if_neg (by decide), if_pos rfl] at g1
      rw [g1, ob_e, ob_e]
    · unfold eB f_Mo_reckon j_Mo_reckon_37
      rw [if_neg (by decide), if_neg (by decide), if_neg (by decide), if_neg (by decide), ck_e cl_174, ob_e, e1, bd_e, ob_e, ob_e, f1, bd_e, if_neg (by decide), if_neg (by decide), ob_e]
      rw [if_neg (by decide), if_neg (by decide)] at g1
      rw [g1, ob_e, ob_e]
  · rcases ho with rfl | rfl | rfl <;> rfl
theorem cF_e {S' : Nat → Int32} (h : cF M t f u p d L S) (hs : ∀ j, j < d → S j = S' j) : cF M t f u p d L S' := by
  obtain ⟨a1, a2, a3, a4, a5, a6⟩ := h
  exact ⟨a1, a2, a3, a4, fun j hj => (a5 j hj).trans (hs j hj), a6⟩
theorem st_6 {a : Int32} (ht : t < 3) (hf : f < 5) (hc : cF Mc t f u p (d + 1) L S) (hm : mF Mm t f u (p + 1) (d + 1) L S) (h5 : d + 1 < 5) : stay t f u p (d + 1) 6 a Mc Mm := by
  obtain ⟨M1, a1, a2, a3⟩ := c_pop ht hf hc
  obtain ⟨M2, b1, b2, b3⟩ := c_push (v := S d) ht hf a3 (by omega)
  obtain ⟨M3, c1, c2, c3⟩ := c_push (v := S d) ht hf b3 (by omega)
  obtain ⟨M4, d1, d2, d3⟩ := c_on ht hf c3
  obtain ⟨N1, e1, e2, e3⟩ := m_push (v := S d) ht hf hm h5
  refine ⟨M4, N1, p + 1, d + 2, _, _, ?_, ?_, kF_t (kF_t (kF_t a2 b2) c2) d2, e2, cF_e d3 (S' := up S (d + 1) (S d)) (fun j hj => ?_), e3, rfl, Or.inl ⟨rfl, by decide⟩⟩
  · rw [pB_c ht hf (by decide), bindself]
    unfold f_Frame_compute f_Frame_duplicate
    rw [if_neg (by decide), if_neg (by decide), if_neg (by decide), if_neg (by decide), if_neg (by decide), if_neg (by decide), if_pos (by decide), ck_e (cl_f t ht f hf), ob_e, ob_e, a1, bd_e, ob_e, b1, ob_e, ob_e, c1, ob_e, ob_e]
    exact d1
  · unfold eB
    rw [if_neg (by decide), if_neg (by decide), if_neg (by decide), if_pos (by decide), if_pos (by decide), gr_174_32, ob_e, gr_174_30, ob_e, ai_n an_197 (by omega) (by decide), ob_e, hm.2.2.1, show (6 : Int32) * nI (5 * t + f) = nI (6 * (5 * t + f)) from nI_mul 6 _, nI_add, show 6 * (5 * t + f) + (d + 1) = 6 * (5 * t + f) + d + 1 from rfl, nI_pred, ai_n an_199 (by omega) (by decide), ob_e, hm.2.2.2.2.1 d (by omega), ck_e cl_174, ob_e, e1, ob_e]
  · show (if j = d + 1 then S d else if j = d then S d else S j) = if j = d + 1 then S d else S j
    by_cases h1 : j = d + 1
    · rw [if_pos h1, if_pos h1]
    · rw [if_neg h1, if_neg h1]
      by_cases h2 : j = d
      · rw [if_pos h2, h2]
      · rw [if_neg h2]
theorem tk_n {o a v : Int32} (h : ¬ o = 9 ∧ ¬ o = 10 ∧ ¬ o = 12 ∧ ¬ o = 13 ∧ ¬ o = 14 ∧ ¬ o = 15) : j_Mo_take_30 174 (nI t) (nI (5 * t + f)) o a v M = some M := by
  obtain ⟨h1, h2, h3, h4, h5, h6⟩ := h
  unfold j_Mo_take_30 j_Mo_take_49 j_Mo_take_75 j_Mo_take_90 j_Mo_take_103
  rw [if_neg h3, if_neg h4, if_neg h4, if_neg h5, if_neg h6]
theorem tk_b {o a v : Int32} (h : ¬ o = 12 ∧ ¬ o = 13 ∧ ¬ o = 14 ∧ ¬ o = 15) : j_Mo_take_30 174 (nI t) (nI (5 * t + f)) o a v M = some M := by
  obtain ⟨h3, h4, h5, h6⟩ := h
  unfold j_Mo_take_30 j_Mo_take_49 j_Mo_take_75 j_Mo_take_90 j_Mo_take_103
  rw [if_neg h3, if_neg h4, if_neg h4, if_neg h5, if_neg h6]
theorem st_7 {a : Int32} (ht : t < 3) (hf : f < 5) (hc : cF Mc t f u p (d + 1) L S) (hm : mF Mm t f u (p + 1) (d + 1) L S) : stay t f u p (d + 1) 7 a Mc Mm := by
  obtain ⟨M1, a1, a2, a3⟩ := c_pop ht hf hc
  obtain ⟨M2, b1, b2, b3⟩ := c_on ht hf a3
  obtain ⟨N1, e1, e2, e3⟩ := m_pop ht hf hm
  refine ⟨M2, N1, p + 1, d, _, _, ?_, ?_, kF_t a2 b2, e2, b3, e3, rfl, Or.inl ⟨rfl, by decide⟩⟩
  · rw [pB_c ht hf (by decide), bindself]
    unfold f_Frame_compute
    rw [if_neg (by decide), if_neg (by decide), if_neg (by decide), if_neg (by decide), if_neg (by decide), if_neg (by decide), if_neg (by decide), if_pos (by decide), ck_e (cl_f t ht f hf), ob_e, a1, bd_e]
    exact b1
  · unfold eB f_Mo_take j_Mo_take_11
    rw [if_neg (by decide), if_neg (by decide), if_neg (by decide), if_pos (by decide), if_neg (by decide), if_neg (by decide), if_neg (by decide), ck_e cl_174, ob_e, e1, bd_e, ob_e, if_neg (by decide), if_neg (by decide), tk_b (by decide), ob_e]
theorem st_8 {x : Nat} (hx : x < 1000) (ht : t < 3) (hf : f < 5) (hc : cF Mc t f u p d L S) (hm : mF Mm t f u (p + 1) d L S) : stay t f u p d 8 (nI x) Mc Mm := by
  obtain ⟨M1, a1, a2, a3⟩ := c_at (p' := x) ht hf hc
  obtain ⟨N1, e1, e2, e3⟩ := m_at (p' := x) ht hf hm
  refine ⟨M1, N1, x, d, _, _, ?_, ?_, a2, e2, a3, e3, rfl, Or.inr ⟨Or.inl rfl, rfl, hx⟩⟩
  · unfold pB f_Frame_branch j_Frame_branch_11 j_Frame_branch_31 j_Frame_branch_50
    rw [if_pos (by decide), ck_e (cl_f t ht f hf), ob_e, if_pos (by decide), if_neg (by decide), if_neg (by decide), if_neg (by decide), a1, ob_e, ob_e]
  · unfold eB
    rw [if_neg (by decide), if_neg (by decide), if_neg (by decide), if_pos (by decide), if_neg (by decide), if_neg (by decide), if_pos (by decide), gr_174_29, ob_e, e1, ob_e]
theorem st_9 {x : Nat} (hx : x < 1000) (ht : t < 3) (hf : f < 5) (hc : cF Mc t f u p (d + 1) L S) (hm : mF Mm t f u (p + 1) (d + 1) L S) : stay t f u p (d + 1) 9 (nI x) Mc Mm := by
  obtain ⟨M1, a1, a2, a3⟩ := c_pop ht hf hc
  obtain ⟨N1, e1, e2, e3⟩ := m_pop ht hf hm
  by_cases hv : S d = 0
  · obtain ⟨M2, b1, b2, b3⟩ := c_at (p' := x) ht hf a3
    obtain ⟨N2, f1, f2, f3⟩ := m_at (p' := x) ht hf e3
    refine ⟨M2, N2, x, d, _, _, ?_, ?_, kF_t a2 b2, kG_t e2 f2, b3, f3, rfl, Or.inr ⟨Or.inr (Or.inl rfl), rfl, hx⟩⟩
    · unfold pB f_Frame_branch j_Frame_branch_11 j_Frame_branch_30 j_Frame_branch_31 j_Frame_branch_50
      rw [if_neg (by decide), if_pos (by decide), ck_e (cl_f t ht f hf), ob_e, if_neg (by decide), if_pos (by decide), ob_e, a1, bd_e, if_pos hv, if_neg (by decide), if_neg (by decide), b1, ob_e, ob_e]
    · unfold eB f_Mo_take j_Mo_take_22
      rw [if_neg (by decide), if_neg (by decide), if_neg (by decide), if_pos (by decide), if_neg (by decide), if_neg (by decide), if_neg (by decide), ck_e cl_174, ob_e, e1, bd_e, ob_e, if_pos (by decide), if_pos hv, gr_174_29, ob_e, f1, ob_e, tk_b (by decide), ob_e]
  · obtain ⟨M2, b1, b2, b3⟩ := c_on ht hf a3
    refine ⟨M2, N1, p + 1, d, _, _, ?_, ?_, kF_t a2 b2, e2, b3, e3, rfl, Or.inl ⟨rfl, by decide⟩⟩
    · unfold pB f_Frame_branch j_Frame_branch_11 j_Frame_branch_30 j_Frame_branch_31 j_Frame_branch_50
      rw [if_neg (by decide), if_pos (by decide), ck_e (cl_f t ht f hf), ob_e, if_neg (by decide), if_pos (by decide), ob_e, a1, bd_e, if_neg hv, if_neg (by decide), if_pos (by decide), b1, ob_e]
    · unfold eB f_Mo_take j_Mo_take_11
      rw [if_neg (by decide), if_neg (by decide), if_neg (by decide), if_pos (by decide), if_neg (by decide), if_neg (by decide), if_neg (by decide), ck_e cl_174, ob_e, e1, bd_e, ob_e, if_pos (by decide), if_neg hv, if_neg (by decide), tk_b (by decide), ob_e]
theorem st_10 {x : Nat} (hx : x < 1000) (ht : t < 3) (hf : f < 5) (hc : cF Mc t f u p (d + 1) L S) (hm : mF Mm t f u (p + 1) (d + 1) L S) : stay t f u p (d + 1) 10 (nI x) Mc Mm := by
  obtain ⟨M1, a1, a2, a3⟩ := c_pop ht hf hc
  obtain ⟨N1, e1, e2, e3⟩ := m_pop ht hf hm
  by_cases hv : 0 ≤ S d
  · obtain ⟨M2, b1, b2, b3⟩ := c_on ht hf a3
    refine ⟨M2, N1, p + 1, d, _, _, ?_, ?_, kF_t a2 b2, e2, b3, e3, rfl, Or.inl ⟨rfl, by decide⟩⟩
    · unfold pB f_Frame_branch j_Frame_branch_11 j_Frame_branch_31 j_Frame_branch_49 j_Frame_branch_50
      rw [if_neg (by decide), if_neg (by decide), if_pos (by decide), ck_e (cl_f t ht f hf), ob_e, if_neg (by decide), if_neg (by decide), if_pos (by decide), ob_e, a1, bd_e, if_pos hv, if_pos (by decide), b1, ob_e]
    · unfold eB f_Mo_take j_Mo_take_11
      rw [if_neg (by decide), if_neg (by decide), if_neg (by decide), if_pos (by decide), if_neg (by decide), if_neg (by decide), if_neg (by decide), ck_e cl_174, ob_e, e1, bd_e, ob_e, if_neg (by decide), if_pos (by decide), if_pos hv, tk_b (by decide), ob_e]
  · obtain ⟨M2, b1, b2, b3⟩ := c_at (p' := x) ht hf a3
    obtain ⟨N2, f1, f2, f3⟩ := m_at (p' := x) ht hf e3
    refine ⟨M2, N2, x, d, _, _, ?_, ?_, kF_t a2 b2, kG_t e2 f2, b3, f3, rfl, Or.inr ⟨Or.inr (Or.inr rfl), rfl, hx⟩⟩
    · unfold pB f_Frame_branch j_Frame_branch_11 j_Frame_branch_31 j_Frame_branch_49 j_Frame_branch_50
      rw [if_neg (by decide), if_neg (by decide), if_pos (by decide), ck_e (cl_f t ht f hf), ob_e, if_neg (by decide), if_neg (by decide), if_pos (by decide), ob_e, a1, bd_e, if_neg hv, if_neg (by decide), b1, ob_e, ob_e]
    · unfold eB f_Mo_take j_Mo_take_11 j_Mo_take_22
      rw [if_neg (by decide), if_neg (by decide), if_neg (by decide), if_pos (by decide), if_neg (by decide), if_neg (by decide), if_neg (by decide), ck_e cl_174, ob_e, e1, bd_e, ob_e, if_neg (by decide), if_pos (by decide), if_neg hv, gr_174_29, ob_e, f1, ob_e, tk_b (by decide), ob_e]
end OPS
