/-! what holds at the law's start -/
theorem tb_in {w : Cond} (i : Nat) (h : tables_1[i]? = some w) : w ∈ lw_tbl := List.mem_append_right _ (List.mem_of_getElem? h)
abbrev st_C : Cond := Jvm.Cond.and given_1 narrow_1
section START
variable {s : State} {b : Nat}
theorem st_cls (hts : ∀ w ∈ lw_tbl, w.before #[Value.ref b] s = true) : ∃ D : va_G, ∀ (c : Nat) (q : vw_C), classes[c]? = some q → u_Kn s q.1 q.2.1 q.2.2 (D.1 c) (D.2 c) := by
  have hg : ∀ w ∈ gT, w.before #[Value.ref b] s = true := fun w hw => hts w (List.mem_filter.mp hw).1
  have h : ∀ c : Nat, ∃ (cC : ClassId) (iS : Nat → Nat), ∀ q : vw_C, classes[c]? = some q → u_Kn s q.1 q.2.1 q.2.2 cC iS := by
    intro c
    match c with
    | 0 => obtain ⟨a, i, h⟩ := u_known hg i_Checker (hts _ (tb_in (w := .instantiable R_Checker 3) 270 (by decide +kernel))); exact ⟨a, i, fun q hq => by cases hq; exact h⟩
    | 1 => obtain ⟨a, i, h⟩ := u_known hg i_Code (hts _ (tb_in (w := .instantiable R_Code 7) 129 (by decide +kernel))); exact ⟨a, i, fun q hq => by cases hq; exact h⟩
    | 2 => obtain ⟨a, i, h⟩ := u_known hg i_Frame (hts _ (tb_in (w := .instantiable R_Frame 5) 197 (by decide +kernel))); exact ⟨a, i, fun q hq => by cases hq; exact h⟩
    | 3 => obtain ⟨a, i, h⟩ := u_known hg i_Heap (hts _ (tb_in (w := .instantiable R_Heap 2) 52 (by decide +kernel))); exact ⟨a, i, fun q hq => by cases hq; exact h⟩
    | 4 => obtain ⟨a, i, h⟩ := u_known hg i_Ledger (hts _ (tb_in (w := .instantiable R_Ledger 12) 66 (by decide +kernel))); exact ⟨a, i, fun q hq => by cases hq; exact h⟩
    | 5 => obtain ⟨a, i, h⟩ := u_known hg i_Machine (hts _ (tb_in (w := .instantiable R_Machine 7) 30 (by decide +kernel))); exact ⟨a, i, fun q hq => by cases hq; exact h⟩
    | 6 => obtain ⟨a, i, h⟩ := u_known hg i_Method (hts _ (tb_in (w := .instantiable R_Method 5) 123 (by decide +kernel))); exact ⟨a, i, fun q hq => by cases hq; exact h⟩
    | 7 => obtain ⟨a, i, h⟩ := u_known hg i_Strand (hts _ (tb_in (w := .instantiable R_Strand 5) 190 (by decide +kernel))); exact ⟨a, i, fun q hq => by cases hq; exact h⟩
    | 8 => obtain ⟨a, i, h⟩ := u_known hg i_Types (hts _ (tb_in (w := .instantiable R_Types 2) 36 (by decide +kernel))); exact ⟨a, i, fun q hq => by cases hq; exact h⟩
    | 9 => obtain ⟨a, i, h⟩ := u_known hg i_AP (hts _ (tb_in (w := .instantiable R_AP 10) 22 (by decide +kernel))); exact ⟨a, i, fun q hq => by cases hq; exact h⟩
    | 10 => obtain ⟨a, i, h⟩ := u_known hg i_Mo (hts _ (tb_in (w := .instantiable R_Mo 48) 972 (by decide +kernel))); exact ⟨a, i, fun q hq => by cases hq; exact h⟩
    | n + 11 => exact ⟨0, fun _ => 0, fun q hq => by simp [classes] at hq⟩
  exact ⟨(fun c => Classical.choose (h c), fun c => Classical.choose (Classical.choose_spec (h c))), fun c q hq => Classical.choose_spec (Classical.choose_spec (h c)) q hq⟩
theorem st_arr (hts : ∀ w ∈ lw_tbl, w.before #[Value.ref b] s = true) : ∃ cy : FieldType → ClassId, ∀ ty ∈ fm_tyL, ArrOfT s (cy ty) ty ∧ va_RA s (cy ty) ty := by
  have hp : ∀ ty : FieldType, (ty = .int ∨ ty = .boolean ∨ ty = .long ∨ ty = .float ∨ ty = .double) → (Cond.arrayClass ty).before #[Value.ref b] s = true → ∃ cA, ArrOfT s cA ty ∧ va_RA s cA ty := by
    intro ty hty h
    obtain ⟨c, k, comp, h1, h2, h3⟩ := Cond.arrayClass_spec h
    refine ⟨c, fun n z => ⟨fun k h => (by cases h), k, h2, comp, h3⟩, ?_⟩
    rcases hty with rfl | rfl | rfl | rfl | rfl <;> exact h1
  have hm : ∀ ty : FieldType, (Cond.arrayOver (.array ty)).before #[Value.ref b] s = true → ∃ cA, ArrOfT s cA (.array ty) ∧ va_RA s cA (.array ty) := by
    intro ty h
    obtain ⟨comp, c, k, h1, -, h2, h3, h4⟩ := arrayOverA_spec h
    exact ⟨c, fun n z => ⟨fun k h => (by cases h), k, h2, comp, h3⟩, h4⟩
  have ho : ∀ C : String, (Cond.arrayOver (.object C)).before #[Value.ref b] s = true → ∃ cA, ArrOfT s cA (.object C) ∧ va_RA s cA (.object C) := by
    intro C h
    obtain ⟨comp, c, k, h1, -, h2, h3, h4⟩ := Cond.arrayOver_spec h
    exact ⟨c, fun n z => ⟨fun k h => (by cases h), k, h2, comp, h3⟩, k, comp, h2, h3, h1, h4⟩
  have h : ∀ ty : FieldType, ∃ cA, ty ∈ fm_tyL → ArrOfT s cA ty ∧ va_RA s cA ty := by
    intro ty
    by_cases hty : ty ∈ fm_tyL
    · simp only [fm_tyL, List.mem_cons, List.not_mem_nil, or_false] at hty
      have : ∃ cA, ArrOfT s cA ty ∧ va_RA s cA ty := by
        rcases hty with rfl | rfl | rfl | rfl | rfl | rfl | rfl | rfl | rfl | rfl
        · exact hp _ (by decide) (hts _ (tb_in 48 (by decide +kernel)))
        · exact hp _ (by decide) (hts _ (tb_in 1122 (by decide +kernel)))
        · exact hp _ (by decide) (hts _ (tb_in 119 (by decide +kernel)))
        · exact hp _ (by decide) (hts _ (tb_in 120 (by decide +kernel)))
        · exact hp _ (by decide) (hts _ (tb_in 1354 (by decide +kernel)))
        · exact hm _ (hts _ (tb_in 72 (by decide +kernel)))
        · exact hm _ (hts _ (tb_in 74 (by decide +kernel)))
        · exact ho _ (hts _ (tb_in 50 (by decide +kernel)))
        · exact ho _ (hts _ (tb_in 122 (by decide +kernel)))
        · exact ho _ (hts _ (tb_in 196 (by decide +kernel)))
      obtain ⟨cA, h⟩ := this
      exact ⟨cA, fun _ => h⟩
    · exact ⟨0, fun h => absurd h hty⟩
  exact ⟨fun ty => Classical.choose (h ty), fun ty hty => Classical.choose_spec (h ty) hty⟩
theorem st_X (hts : ∀ w ∈ lw_tbl, w.before #[Value.ref b] s = true) : cn_X s := by
  have hm : ∀ ty : FieldType, (Cond.arrayOver (.array ty)).before #[Value.ref b] s = true → cn_MA ty s := by
    intro ty h
    obtain ⟨comp, c, k, h1, -, h2, h3, h4⟩ := arrayOverA_spec h
    exact ⟨c, k, comp, h4, h2, h3, h1⟩
  exact ⟨va_AO.of (hts _ (tb_in 50 (by decide +kernel))), va_AO.of (hts _ (tb_in 122 (by decide +kernel))), va_AO.of (hts _ (tb_in 196 (by decide +kernel))), hm _ (hts _ (tb_in 72 (by decide +kernel))), hm _ (hts _ (tb_in 74 (by decide +kernel)))⟩
set_option maxRecDepth 100000 in
theorem st_tkm : Cond.arrayOf (.static "AllocationProfiler" "TAKES" "[I") .int ∈ flatC st_C ∧ Cond.eq (.length (.static "AllocationProfiler" "TAKES" "[I")) (.int 17) ∈ flatC st_C ∧ ∀ j, j < 17 → Cond.eq (.elem (.static "AllocationProfiler" "TAKES" "[I") (.int (Int32.ofNat j))) (.int (fm_tk.getD j 0)) ∈ flatC st_C := by decide +kernel
set_option maxRecDepth 100000 in
theorem st_ptm : Cond.arrayOf (.static "AllocationProfiler" "PUTS" "[I") .int ∈ flatC st_C ∧ Cond.eq (.length (.static "AllocationProfiler" "PUTS" "[I")) (.int 17) ∈ flatC st_C ∧ ∀ j, j < 17 → Cond.eq (.elem (.static "AllocationProfiler" "PUTS" "[I") (.int (Int32.ofNat j))) (.int (fm_pt.getD j 0)) ∈ flatC st_C := by decide +kernel
set_option maxRecDepth 100000 in
theorem st_rest : Cond.isRef (.static Bundle.tN "UNASSIGNED_STACK" Bundle.steD) ∈ flatC st_C ∧ Cond.isRef (.static Bundle.tN "SUPPRESSED_SENTINEL" Bundle.listD) ∈ flatC st_C ∧ ∀ q ∈ lx_no, Cond.not (.castable q.1 q.2) ∈ flatC st_C := by decide +kernel
theorem st_sta (hs : ∀ c ∈ flatC st_C, c.before #[Value.ref b] s = true) {n : String} {vs : List Int32} (hn : vs.length = 17) (hl : (Cond.laysStatic "AllocationProfiler" n "[I").before #[Value.ref b] s = true) (hi : (Cond.initialized "AllocationProfiler").before #[Value.ref b] s = true)
    (hm : Cond.arrayOf (.static "AllocationProfiler" n "[I") .int ∈ flatC st_C ∧ Cond.eq (.length (.static "AllocationProfiler" n "[I")) (.int 17) ∈ flatC st_C ∧ ∀ j, j < 17 → Cond.eq (.elem (.static "AllocationProfiler" n "[I") (.int (Int32.ofNat j))) (.int (vs.getD j 0)) ∈ flatC st_C) : ∃ t, fm_St n vs s.heap.size t s s.heap := by
  obtain ⟨t, h1, h2⟩ := va_Tof (tm := .static "AllocationProfiler" n "[I") (N := vs.length) (f := fun j => .int (vs.getD j 0)) (A := fm_A s.heap.size) (by omega) (hs _ hm.1) (by rw [hn]; exact va_eqt (hs _ hm.2.1)) (fun j hj => va_eqt (hs _ (hm.2.2 j (by omega)))) (fun a ha h => by have h : s.heap.size ≤ a := h; omega)
  exact ⟨t, va_Zof hl hi h1 (fun a ha h => by have h : s.heap.size ≤ a := h; omega), h2⟩
theorem st_str (hts : ∀ w ∈ lw_tbl, w.before #[Value.ref b] s = true) : ∀ q ∈ fx_strs, ∃ sa, vk_R q.1 q.2.1 q.2.2 sa s := by
  have hin : ∀ q ∈ fx_strs, q.1 = "AllocationProfiler" ∧ Cond.stringRef q.1 q.2.1 q.2.2 ∈ tables_1 := by decide +kernel
  obtain ⟨D, hD⟩ := st_cls hts
  have hcur : s.vm.findClass "AllocationProfiler" = some (D.1 9) := (hD 9 _ rfl).2.1
  intro q hq
  obtain ⟨h1, h2⟩ := hin q hq
  have h3 := hts _ (List.mem_append_right _ h2)
  obtain ⟨k, cf, i, a, -, -, -, -, -, h4⟩ := Cond.stringRef_spec (by rw [h1]; exact hcur) h3
  exact ⟨a, vk_R.of h3 h4⟩
theorem st_all (hts : ∀ w ∈ lw_tbl, w.before #[Value.ref b] s = true) (hg : st_C.before #[Value.ref b] s = true) : ∃ G : fm_G, G.2.2 = s.heap.size ∧ fx_S G s ∧ cn_X s ∧ lx_S s := by
  have hs := flat_of_before _ hg
  obtain ⟨D, hD⟩ := st_cls hts
  obtain ⟨cy, hcy⟩ := st_arr hts
  have hA : ∀ a : Nat, a < s.heap.size → ¬ fm_A s.heap.size a := fun a ha h => by have h : s.heap.size ≤ a := h; omega
  refine ⟨(D, cy, s.heap.size), rfl, ⟨⟨⟨hD, fun k q hk => ?_⟩, fun w hw => ?_, ?_, ?_⟩, ?_, ?_, st_str hts, ?_⟩, st_X hts, ?_, ?_⟩
  · obtain ⟨ty, hty, rfl⟩ := List.mem_map.mp (List.mem_of_getElem? hk)
    exact hcy ty hty
  · have h1 := hts w (List.mem_filter.mp hw).1
    have h2 := (List.mem_filter.mp hw).2
    cases w <;> first | exact h1 | cases h2
  · exact st_sta hs rfl (hts _ (tb_in 555 (by decide +kernel))) (hts _ (tb_in 1 (by decide +kernel))) st_tkm
  · exact st_sta hs rfl (hts _ (tb_in 557 (by decide +kernel))) (hts _ (tb_in 1 (by decide +kernel))) st_ptm
  · exact vx_Zqof (hts _ (tb_in 360 (by decide +kernel))) (hts _ (tb_in 12 (by decide +kernel))) (hs _ st_rest.1) hA
  · exact vx_Zqof (hts _ (tb_in 362 (by decide +kernel))) (hts _ (tb_in 12 (by decide +kernel))) (hs _ st_rest.2.1) hA
  · intro y hy
    simp only [fx_decl, List.mem_cons, List.not_mem_nil, or_false] at hy
    rcases hy with rfl | rfl | rfl
    · exact hts _ (tb_in (w := .declares (Bundle.initS "java/lang/RuntimeException")) 337 (by decide +kernel))
    · exact hts _ (tb_in (w := .declares (Bundle.initS "java/lang/Exception")) 339 (by decide +kernel))
    · exact hts _ (tb_in (w := .declares (Bundle.initS "java/lang/Throwable")) 341 (by decide +kernel))
  · intro E hE
    simp only [lx_yes, List.mem_cons, List.not_mem_nil, or_false] at hE
    rcases hE with rfl | rfl | rfl | rfl
    · exact va_Yc.of (hts _ (tb_in 335 (by decide +kernel)))
    · exact va_Yc.of (hts _ (tb_in 412 (by decide +kernel)))
    · exact va_Yc.of (hts _ (tb_in 654 (by decide +kernel)))
    · exact va_Yc.of (hts _ (tb_in 686 (by decide +kernel)))
  · exact fun q hq => va_Nc.of (hs _ (st_rest.2.2 q hq))
end START
