/-! helpers of the printed functions -/
def ck (q ci : Nat) : Option Unit := if cl q = some ci then some () else none
theorem ck_of {q ci : Nat} {u : Unit} (h : ck q ci = some u) : cl q = some ci := by
  unfold ck at h
  split at h
  · assumption
  · cases h
def bz (x : Int32) : Option Unit := if x = 0 ∨ x = 1 then some () else none
theorem bz_of {x : Int32} {u : Unit} (h : bz x = some u) : x = 0 ∨ x = 1 := by
  unfold bz at h
  split at h
  · assumption
  · cases h
def nn32 (r : UInt32) : Option Unit := if r &&& 0x7fffffff ≤ 0x7f800000 then some () else none
theorem nn32_of {r : UInt32} {u : Unit} (h : nn32 r = some u) : vf_n32 r := by
  unfold nn32 at h
  split at h
  · assumption
  · cases h
def nn64 (r : UInt64) : Option Unit := if r &&& 0x7fffffffffffffff ≤ 0x7ff0000000000000 then some () else none
theorem nn64_of {r : UInt64} {u : Unit} (h : nn64 r = some u) : vf_n64 r := by
  unfold nn64 at h
  split at h
  · assumption
  · cases h
def bd {α β γ : Type} (o : Option (α × β)) (f : α → β → Option γ) : Option γ := o.bind fun r => f r.1 r.2
theorem ob2 {α β γ : Type} {o : Option (α × β)} {f : α → β → Option γ} {b : γ} (h : bd o f = some b) : ∃ x y, o = some (x, y) ∧ f x y = some b := by
  obtain ⟨⟨x, y⟩, h1, h2⟩ := Option.bind_eq_some_iff.mp h
  exact ⟨x, y, h1, h2⟩
section CALLS
variable {p : Program} {l : Launch} {e : Env} {R : Room} {s : State} {m : MethodId} {args : Array Value} {below : List Frame} {meth : Method} {c : Code} {H : Heap} {locs : List Loc} {cells slots : Nat} {Q : State → Prop}
variable {cc : ByteArray} {pc : Nat} {ls : Array Slot} {rest : List Value} {G : fm_G} {M M1 : fm_M} {q : Nat} {w0 : Cond} {own : String} {nL : Nat} {ret : Option FieldType}
theorem k_cV (C0 : fm_C p s m args meth c G w0 own cc nL ret) {idx : Nat} {C : String} {y : MethodName} {bc : ByteArray} {n : Nat} {rt : Option FieldType} {na : Nat} (hL : fm_LV own idx C y bc n rt na) {rm : Room} {As : List Value} {v : Value} (hM : kMet l y bc n rt rm G M (.ref (G.2.2 + q) :: As) (some v) M1) (hrm : rm.cells = 0 ∧ rm.slots = 0) (hR : rm.frames + 1 ≤ R.frames ∧ 8 + (n + 11) + rm.locals ≤ R.locals)
    (hP : kP G M H) (hS : kS G s H locs) {ci : Nat} (hcl : cl q = some ci) (hc : fm_Ly C ci) (hn : As.length = na) (hsz : ls.size = nL) {st0 : List Value} (hst : st0 = As.reverse ++ .ref (G.2.2 + q) :: rest) (hw : (rest.map fun v => v.category).sum ≤ 8) (hdg : decode cc pc = .ok (.invokevirtual idx, 3)) (hf : cells ≤ R.cells ∧ slots ≤ R.slots)
    (kk : ∀ (H1 : Heap) (locs1 : List Loc), kP G M1 H1 → kS G s H1 locs1 → W p l e R s m args below meth c H1 locs1 cells slots Q (F0 m (pc + 3) ls (v :: rest))) : W p l e R s m args below meth c H locs cells slots Q (F0 m pc ls st0) :=
  k_cV0 C0 hL hM hrm hR hP hS hcl hc hn hsz hst hw hdg hf kk
theorem k_cVv (C0 : fm_C p s m args meth c G w0 own cc nL ret) {idx : Nat} {C : String} {y : MethodName} {bc : ByteArray} {n : Nat} {rt : Option FieldType} {na : Nat} (hL : fm_LV own idx C y bc n rt na) {rm : Room} {As : List Value} (hM : kMet l y bc n rt rm G M (.ref (G.2.2 + q) :: As) none M1) (hrm : rm.cells = 0 ∧ rm.slots = 0) (hR : rm.frames + 1 ≤ R.frames ∧ 8 + (n + 11) + rm.locals ≤ R.locals)
    (hP : kP G M H) (hS : kS G s H locs) {ci : Nat} (hcl : cl q = some ci) (hc : fm_Ly C ci) (hn : As.length = na) (hsz : ls.size = nL) {st0 : List Value} (hst : st0 = As.reverse ++ .ref (G.2.2 + q) :: rest) (hw : (rest.map fun v => v.category).sum ≤ 8) (hdg : decode cc pc = .ok (.invokevirtual idx, 3)) (hf : cells ≤ R.cells ∧ slots ≤ R.slots)
    (kk : ∀ (H1 : Heap) (locs1 : List Loc), kP G M1 H1 → kS G s H1 locs1 → W p l e R s m args below meth c H1 locs1 cells slots Q (F0 m (pc + 3) ls rest)) : W p l e R s m args below meth c H locs cells slots Q (F0 m pc ls st0) :=
  k_cV0 C0 hL hM hrm hR hP hS hcl hc hn hsz hst hw hdg hf kk
theorem k_cS (C0 : fm_C p s m args meth c G w0 own cc nL ret) {idx : Nat} {y : MethodName} {bc : ByteArray} {n : Nat} {rt : Option FieldType} {na : Nat} (hL : fm_LS own idx y bc n rt na) {rm : Room} {As : List Value} {v : Value} (hM : kMet l y bc n rt rm G M As (some v) M1) (hrm : rm.cells = 0 ∧ rm.slots = 0) (hR : rm.frames + 1 ≤ R.frames ∧ 8 + (n + 11) + rm.locals ≤ R.locals)
    (hP : kP G M H) (hS : kS G s H locs) (hn : As.length = na) (hsz : ls.size = nL) {st0 : List Value} (hst : st0 = As.reverse ++ rest) (hw : (rest.map fun v => v.category).sum ≤ 8) (hdg : decode cc pc = .ok (.invokestatic idx, 3)) (hf : cells ≤ R.cells ∧ slots ≤ R.slots)
    (kk : ∀ (H1 : Heap) (locs1 : List Loc), kP G M1 H1 → kS G s H1 locs1 → W p l e R s m args below meth c H1 locs1 cells slots Q (F0 m (pc + 3) ls (v :: rest))) : W p l e R s m args below meth c H locs cells slots Q (F0 m pc ls st0) :=
  r_callS C0 hL hM hrm hR hP hS hn hsz hst hw hdg hf kk
theorem k_cSv (C0 : fm_C p s m args meth c G w0 own cc nL ret) {idx : Nat} {y : MethodName} {bc : ByteArray} {n : Nat} {rt : Option FieldType} {na : Nat} (hL : fm_LS own idx y bc n rt na) {rm : Room} {As : List Value} (hM : kMet l y bc n rt rm G M As none M1) (hrm : rm.cells = 0 ∧ rm.slots = 0) (hR : rm.frames + 1 ≤ R.frames ∧ 8 + (n + 11) + rm.locals ≤ R.locals)
    (hP : kP G M H) (hS : kS G s H locs) (hn : As.length = na) (hsz : ls.size = nL) {st0 : List Value} (hst : st0 = As.reverse ++ rest) (hw : (rest.map fun v => v.category).sum ≤ 8) (hdg : decode cc pc = .ok (.invokestatic idx, 3)) (hf : cells ≤ R.cells ∧ slots ≤ R.slots)
    (kk : ∀ (H1 : Heap) (locs1 : List Loc), kP G M1 H1 → kS G s H1 locs1 → W p l e R s m args below meth c H1 locs1 cells slots Q (F0 m (pc + 3) ls rest)) : W p l e R s m args below meth c H locs cells slots Q (F0 m pc ls st0) :=
  r_callS C0 hL hM hrm hR hP hS hn hsz hst hw hdg hf kk
theorem k_cSN (C0 : fm_C p s m args meth c G w0 own cc nL ret) {idx : Nat} {host : String} {y : MethodName} {bc : ByteArray} {n : Nat} {rt : Option FieldType} {na : Nat} (hL : fm_LSN own idx host y bc n rt na) {rm : Room} {As : List Value} {v : Value} (hM : kMet l y bc n rt rm G M As (some v) M1) (hrm : rm.cells = 0 ∧ rm.slots = 0) (hR : rm.frames + 1 ≤ R.frames ∧ 8 + (n + 11) + rm.locals ≤ R.locals)
    (hP : kP G M H) (hS : kS G s H locs) (hn : As.length = na) (hsz : ls.size = nL) {st0 : List Value} (hst : st0 = As.reverse ++ rest) (hw : (rest.map fun v => v.category).sum ≤ 8) (hdg : decode cc pc = .ok (.invokestatic idx, 3)) (hf : cells ≤ R.cells ∧ slots ≤ R.slots)
    (kk : ∀ (H1 : Heap) (locs1 : List Loc), kP G M1 H1 → kS G s H1 locs1 → W p l e R s m args below meth c H1 locs1 cells slots Q (F0 m (pc + 3) ls (v :: rest))) : W p l e R s m args below meth c H locs cells slots Q (F0 m pc ls st0) :=
  r_callSN C0 hL hM hrm hR hP hS hn hsz hst hw hdg hf kk
theorem k_ldcwf (hexec : p.tables.exec = Jvm.exec) (hb : c.code = cc) {own : String} {index : Nat} {v : UInt32} (hown : s.vm.findClass own = some m.cls) (hconst : (Jvm.Cond.constantFloat own index v).before args s = true) (hdg : decode cc pc = .ok (.ldc_w index, 3)) (k : W p l e R s m args below meth c H locs cells slots Q (F0 m (pc + 3) ls (.float v :: rest))) : W p l e R s m args below meth c H locs cells slots Q (F0 m pc ls rest) := by
  obtain ⟨k0, cf, hk, hcf, hcp⟩ := Cond.constantFloat_spec hown hconst
  intro T hT X
  obtain ⟨k', hk', he⟩ := X.warmed.alike.2.2 _ _ hk
  obtain ⟨t, a, b⟩ := k T hT X
  refine ⟨t, ?_, b⟩
  have hdg' : decode c.code (F0 m pc ls rest).pc = .ok (.ldc_w index, 3) := by rw [hb]; exact hdg
  jvm_step X.here [hexec, hdg', ldc_w.wp_float (s := T) (f := F0 m pc ls rest) X.here.top hk' (by rw [he]; exact hcf) hcp]
  exact a
end CALLS
theorem bp_m2 : (Int8.ofInt (-2)).toInt32 = (-2) := by decide
theorem bp_10 : (Int8.ofInt 10).toInt32 = 10 := by decide
theorem bp_11 : (Int8.ofInt 11).toInt32 = 11 := by decide
theorem bp_12 : (Int8.ofInt 12).toInt32 = 12 := by decide
theorem bp_13 : (Int8.ofInt 13).toInt32 = 13 := by decide
theorem bp_14 : (Int8.ofInt 14).toInt32 = 14 := by decide
theorem bp_15 : (Int8.ofInt 15).toInt32 = 15 := by decide
theorem bp_16 : (Int8.ofInt 16).toInt32 = 16 := by decide
theorem bp_24 : (Int8.ofInt 24).toInt32 = 24 := by decide
theorem bp_28 : (Int8.ofInt 28).toInt32 = 28 := by decide
theorem bp_50 : (Int8.ofInt 50).toInt32 = 50 := by decide
theorem bp_6 : (Int8.ofInt 6).toInt32 = 6 := by decide
theorem bp_63 : (Int8.ofInt 63).toInt32 = 63 := by decide
theorem bp_7 : (Int8.ofInt 7).toInt32 = 7 := by decide
theorem bp_8 : (Int8.ofInt 8).toInt32 = 8 := by decide
theorem bp_9 : (Int8.ofInt 9).toInt32 = 9 := by decide
theorem ic_m1 : Int32.ofInt (-1) = (-1) := by decide
theorem ic_0 : Int32.ofInt 0 = 0 := by decide
theorem ic_1 : Int32.ofInt 1 = 1 := by decide
theorem ic_2 : Int32.ofInt 2 = 2 := by decide
theorem ic_3 : Int32.ofInt 3 = 3 := by decide
theorem ic_4 : Int32.ofInt 4 = 4 := by decide
theorem ic_5 : Int32.ofInt 5 = 5 := by decide
theorem lc_0 : Int64.ofNat ((0 : Fin 2) : Nat) = 0 := by decide
theorem lc_1 : Int64.ofNat ((1 : Fin 2) : Nat) = 1 := by decide
theorem sp_200 : (Int16.ofInt 200).toInt32 = 200 := by decide
theorem sp_250 : (Int16.ofInt 250).toInt32 = 250 := by decide
theorem sp_252 : (Int16.ofInt 252).toInt32 = 252 := by decide
theorem sp_400 : (Int16.ofInt 400).toInt32 = 400 := by decide
theorem sp_4095 : (Int16.ofInt 4095).toInt32 = 4095 := by decide
theorem sp_4096 : (Int16.ofInt 4096).toInt32 = 4096 := by decide
theorem ti_0 : (0 : Int32).toInt = 0 := by decide
theorem ti_1 : (1 : Int32).toInt = 1 := by decide
theorem ti_10 : (10 : Int32).toInt = 10 := by decide
theorem ti_11 : (11 : Int32).toInt = 11 := by decide
theorem ti_12 : (12 : Int32).toInt = 12 := by decide
theorem ti_13 : (13 : Int32).toInt = 13 := by decide
theorem ti_14 : (14 : Int32).toInt = 14 := by decide
theorem ti_15 : (15 : Int32).toInt = 15 := by decide
theorem ti_2 : (2 : Int32).toInt = 2 := by decide
theorem ti_3 : (3 : Int32).toInt = 3 := by decide
theorem ti_4 : (4 : Int32).toInt = 4 := by decide
theorem ti_5 : (5 : Int32).toInt = 5 := by decide
theorem ti_6 : (6 : Int32).toInt = 6 := by decide
theorem ti_7 : (7 : Int32).toInt = 7 := by decide
theorem ti_8 : (8 : Int32).toInt = 8 := by decide
theorem ti_9 : (9 : Int32).toInt = 9 := by decide
theorem ly_Checker : fm_Ly "AllocationProfiler$Checker" 0 := ⟨_, _, rfl⟩
theorem ly_Code : fm_Ly "AllocationProfiler$Code" 1 := ⟨_, _, rfl⟩
theorem ly_Frame : fm_Ly "AllocationProfiler$Frame" 2 := ⟨_, _, rfl⟩
theorem ly_Heap : fm_Ly "AllocationProfiler$Heap" 3 := ⟨_, _, rfl⟩
theorem ly_Ledger : fm_Ly "AllocationProfiler$Ledger" 4 := ⟨_, _, rfl⟩
theorem ly_Machine : fm_Ly "AllocationProfiler$Machine" 5 := ⟨_, _, rfl⟩
theorem ly_Method : fm_Ly "AllocationProfiler$Method" 6 := ⟨_, _, rfl⟩
theorem ly_Strand : fm_Ly "AllocationProfiler$Strand" 7 := ⟨_, _, rfl⟩
theorem ly_Types : fm_Ly "AllocationProfiler$Types" 8 := ⟨_, _, rfl⟩
theorem ly_AP : fm_Ly "AllocationProfiler" 9 := ⟨_, _, rfl⟩
theorem ly_Mo : fm_Ly "AllocationProfilerModel" 10 := ⟨_, _, rfl⟩
theorem F_AP_56 : fm_F "AllocationProfiler" 56 9 8 := ⟨R_AP, T_AP, 10, rfl, by decide, i_AP, rfl, (Or.inl (gT_in 293 (by decide +kernel) rfl))⟩
theorem F_Checker_9 : fm_F "AllocationProfiler$Checker" 9 0 0 := ⟨R_Checker, T_Checker, 3, rfl, by decide, i_Checker, rfl, (Or.inl (gT_in 275 (by decide +kernel) rfl))⟩
theorem F_Checker_15 : fm_F "AllocationProfiler$Checker" 15 0 1 := ⟨R_Checker, T_Checker, 3, rfl, by decide, i_Checker, rfl, (Or.inl (gT_in 276 (by decide +kernel) rfl))⟩
theorem F_Checker_18 : fm_F "AllocationProfiler$Checker" 18 0 2 := ⟨R_Checker, T_Checker, 3, rfl, by decide, i_Checker, rfl, (Or.inl (gT_in 277 (by decide +kernel) rfl))⟩
theorem F_Checker_18p : fm_Fp "AllocationProfiler$Checker" 18 0 2 .int := ⟨R_Checker, T_Checker, 3, t_Checker, rfl, by decide, i_Checker, rfl, t_Checker_ok, n_Checker, rfl, rfl, (Or.inl (gT_in 277 (by decide +kernel) rfl))⟩
theorem F_Checker_36 : fm_F "AllocationProfiler$Checker" 36 1 5 := ⟨R_Code, T_Code, 7, rfl, by decide, i_Code, rfl, (Or.inr ⟨"AllocationProfiler", (nW_in 148 (by decide +kernel) rfl)⟩)⟩
theorem F_Checker_71 : fm_F "AllocationProfiler$Checker" 71 1 6 := ⟨R_Code, T_Code, 7, rfl, by decide, i_Code, rfl, (Or.inr ⟨"AllocationProfiler", (nW_in 153 (by decide +kernel) rfl)⟩)⟩
theorem F_Checker_74 : fm_F "AllocationProfiler$Checker" 74 1 2 := ⟨R_Code, T_Code, 7, rfl, by decide, i_Code, rfl, (Or.inr ⟨"AllocationProfiler", (nW_in 140 (by decide +kernel) rfl)⟩)⟩
theorem F_Checker_77 : fm_F "AllocationProfiler$Checker" 77 1 3 := ⟨R_Code, T_Code, 7, rfl, by decide, i_Code, rfl, (Or.inr ⟨"AllocationProfiler", (nW_in 143 (by decide +kernel) rfl)⟩)⟩
theorem F_Checker_80 : fm_F "AllocationProfiler$Checker" 80 1 4 := ⟨R_Code, T_Code, 7, rfl, by decide, i_Code, rfl, (Or.inr ⟨"AllocationProfiler", (nW_in 146 (by decide +kernel) rfl)⟩)⟩
theorem F_Code_9 : fm_F "AllocationProfiler$Code" 9 1 2 := ⟨R_Code, T_Code, 7, rfl, by decide, i_Code, rfl, (Or.inl (gT_in 138 (by decide +kernel) rfl))⟩
theorem F_Code_15 : fm_F "AllocationProfiler$Code" 15 1 3 := ⟨R_Code, T_Code, 7, rfl, by decide, i_Code, rfl, (Or.inl (gT_in 141 (by decide +kernel) rfl))⟩
theorem F_Code_18 : fm_F "AllocationProfiler$Code" 18 1 4 := ⟨R_Code, T_Code, 7, rfl, by decide, i_Code, rfl, (Or.inl (gT_in 144 (by decide +kernel) rfl))⟩
theorem F_Code_21 : fm_F "AllocationProfiler$Code" 21 1 5 := ⟨R_Code, T_Code, 7, rfl, by decide, i_Code, rfl, (Or.inl (gT_in 147 (by decide +kernel) rfl))⟩
theorem F_Code_21p : fm_Fp "AllocationProfiler$Code" 21 1 5 .int := ⟨R_Code, T_Code, 7, t_Code, rfl, by decide, i_Code, rfl, t_Code_ok, n_Code, rfl, rfl, (Or.inl (gT_in 147 (by decide +kernel) rfl))⟩
theorem F_Code_25 : fm_F "AllocationProfiler$Code" 25 1 6 := ⟨R_Code, T_Code, 7, rfl, by decide, i_Code, rfl, (Or.inl (gT_in 151 (by decide +kernel) rfl))⟩
theorem F_Code_25p : fm_Fp "AllocationProfiler$Code" 25 1 6 .int := ⟨R_Code, T_Code, 7, t_Code, rfl, by decide, i_Code, rfl, t_Code_ok, n_Code, rfl, rfl, (Or.inl (gT_in 151 (by decide +kernel) rfl))⟩
theorem F_Code_28 : fm_F "AllocationProfiler$Code" 28 1 0 := ⟨R_Code, T_Code, 7, rfl, by decide, i_Code, rfl, (Or.inl (gT_in 134 (by decide +kernel) rfl))⟩
theorem F_Code_31 : fm_F "AllocationProfiler$Code" 31 1 1 := ⟨R_Code, T_Code, 7, rfl, by decide, i_Code, rfl, (Or.inl (gT_in 136 (by decide +kernel) rfl))⟩
theorem F_Frame_9 : fm_F "AllocationProfiler$Frame" 9 2 0 := ⟨R_Frame, T_Frame, 5, rfl, by decide, i_Frame, rfl, (Or.inl (gT_in 202 (by decide +kernel) rfl))⟩
theorem F_Frame_15 : fm_F "AllocationProfiler$Frame" 15 2 1 := ⟨R_Frame, T_Frame, 5, rfl, by decide, i_Frame, rfl, (Or.inl (gT_in 203 (by decide +kernel) rfl))⟩
theorem F_Frame_18p : fm_Fp "AllocationProfiler$Frame" 18 2 2 .int := ⟨R_Frame, T_Frame, 5, t_Frame, rfl, by decide, i_Frame, rfl, t_Frame_ok, n_Frame, rfl, rfl, (Or.inl (gT_in 204 (by decide +kernel) rfl))⟩
theorem F_Frame_22 : fm_F "AllocationProfiler$Frame" 22 2 3 := ⟨R_Frame, T_Frame, 5, rfl, by decide, i_Frame, rfl, (Or.inl (gT_in 207 (by decide +kernel) rfl))⟩
theorem F_Frame_22p : fm_Fp "AllocationProfiler$Frame" 22 2 3 .int := ⟨R_Frame, T_Frame, 5, t_Frame, rfl, by decide, i_Frame, rfl, t_Frame_ok, n_Frame, rfl, rfl, (Or.inl (gT_in 207 (by decide +kernel) rfl))⟩
theorem F_Frame_25 : fm_F "AllocationProfiler$Frame" 25 2 4 := ⟨R_Frame, T_Frame, 5, rfl, by decide, i_Frame, rfl, (Or.inl (gT_in 209 (by decide +kernel) rfl))⟩
theorem F_Frame_25p : fm_Fp "AllocationProfiler$Frame" 25 2 4 .int := ⟨R_Frame, T_Frame, 5, t_Frame, rfl, by decide, i_Frame, rfl, t_Frame_ok, n_Frame, rfl, rfl, (Or.inl (gT_in 209 (by decide +kernel) rfl))⟩
theorem F_Heap_9 : fm_F "AllocationProfiler$Heap" 9 3 0 := ⟨R_Heap, T_Heap, 2, rfl, by decide, i_Heap, rfl, (Or.inl (gT_in 57 (by decide +kernel) rfl))⟩
theorem F_Heap_15 : fm_F "AllocationProfiler$Heap" 15 3 1 := ⟨R_Heap, T_Heap, 2, rfl, by decide, i_Heap, rfl, (Or.inl (gT_in 58 (by decide +kernel) rfl))⟩
theorem F_Heap_15p : fm_Fp "AllocationProfiler$Heap" 15 3 1 .int := ⟨R_Heap, T_Heap, 2, t_Heap, rfl, by decide, i_Heap, rfl, t_Heap_ok, n_Heap, rfl, rfl, (Or.inl (gT_in 58 (by decide +kernel) rfl))⟩
theorem F_Ledger_11 : fm_F "AllocationProfiler$Ledger" 11 4 0 := ⟨R_Ledger, T_Ledger, 12, rfl, by decide, i_Ledger, rfl, (Or.inl (gT_in 75 (by decide +kernel) rfl))⟩
theorem F_Ledger_18 : fm_F "AllocationProfiler$Ledger" 18 4 1 := ⟨R_Ledger, T_Ledger, 12, rfl, by decide, i_Ledger, rfl, (Or.inl (gT_in 76 (by decide +kernel) rfl))⟩
theorem F_Ledger_21 : fm_F "AllocationProfiler$Ledger" 21 4 2 := ⟨R_Ledger, T_Ledger, 12, rfl, by decide, i_Ledger, rfl, (Or.inl (gT_in 77 (by decide +kernel) rfl))⟩
theorem F_Ledger_25 : fm_F "AllocationProfiler$Ledger" 25 4 3 := ⟨R_Ledger, T_Ledger, 12, rfl, by decide, i_Ledger, rfl, (Or.inl (gT_in 78 (by decide +kernel) rfl))⟩
theorem F_Ledger_29 : fm_F "AllocationProfiler$Ledger" 29 4 4 := ⟨R_Ledger, T_Ledger, 12, rfl, by decide, i_Ledger, rfl, (Or.inl (gT_in 80 (by decide +kernel) rfl))⟩
theorem F_Ledger_33 : fm_F "AllocationProfiler$Ledger" 33 4 5 := ⟨R_Ledger, T_Ledger, 12, rfl, by decide, i_Ledger, rfl, (Or.inl (gT_in 82 (by decide +kernel) rfl))⟩
theorem F_Ledger_36 : fm_F "AllocationProfiler$Ledger" 36 4 6 := ⟨R_Ledger, T_Ledger, 12, rfl, by decide, i_Ledger, rfl, (Or.inl (gT_in 83 (by decide +kernel) rfl))⟩
theorem F_Ledger_39 : fm_F "AllocationProfiler$Ledger" 39 4 7 := ⟨R_Ledger, T_Ledger, 12, rfl, by decide, i_Ledger, rfl, (Or.inl (gT_in 85 (by decide +kernel) rfl))⟩
theorem F_Ledger_42 : fm_F "AllocationProfiler$Ledger" 42 4 8 := ⟨R_Ledger, T_Ledger, 12, rfl, by decide, i_Ledger, rfl, (Or.inl (gT_in 87 (by decide +kernel) rfl))⟩
theorem F_Ledger_45 : fm_F "AllocationProfiler$Ledger" 45 4 9 := ⟨R_Ledger, T_Ledger, 12, rfl, by decide, i_Ledger, rfl, (Or.inl (gT_in 89 (by decide +kernel) rfl))⟩
theorem F_Ledger_45p : fm_Fp "AllocationProfiler$Ledger" 45 4 9 .int := ⟨R_Ledger, T_Ledger, 12, t_Ledger, rfl, by decide, i_Ledger, rfl, t_Ledger_ok, n_Ledger, rfl, rfl, (Or.inl (gT_in 89 (by decide +kernel) rfl))⟩
theorem F_Ledger_49 : fm_F "AllocationProfiler$Ledger" 49 4 10 := ⟨R_Ledger, T_Ledger, 12, rfl, by decide, i_Ledger, rfl, (Or.inl (gT_in 91 (by decide +kernel) rfl))⟩
theorem F_Ledger_49p : fm_Fp "AllocationProfiler$Ledger" 49 4 10 .int := ⟨R_Ledger, T_Ledger, 12, t_Ledger, rfl, by decide, i_Ledger, rfl, t_Ledger_ok, n_Ledger, rfl, rfl, (Or.inl (gT_in 91 (by decide +kernel) rfl))⟩
theorem F_Ledger_52 : fm_F "AllocationProfiler$Ledger" 52 4 11 := ⟨R_Ledger, T_Ledger, 12, rfl, by decide, i_Ledger, rfl, (Or.inl (gT_in 93 (by decide +kernel) rfl))⟩
theorem F_Ledger_52p : fm_Fp "AllocationProfiler$Ledger" 52 4 11 .int := ⟨R_Ledger, T_Ledger, 12, t_Ledger, rfl, by decide, i_Ledger, rfl, t_Ledger_ok, n_Ledger, rfl, rfl, (Or.inl (gT_in 93 (by decide +kernel) rfl))⟩
theorem F_Machine_12 : fm_F "AllocationProfiler$Machine" 12 5 0 := ⟨R_Machine, T_Machine, 7, rfl, by decide, i_Machine, rfl, (Or.inl (gT_in 240 (by decide +kernel) rfl))⟩
theorem F_Machine_20 : fm_F "AllocationProfiler$Machine" 20 5 1 := ⟨R_Machine, T_Machine, 7, rfl, by decide, i_Machine, rfl, (Or.inl (gT_in 242 (by decide +kernel) rfl))⟩
theorem F_Machine_27 : fm_F "AllocationProfiler$Machine" 27 5 2 := ⟨R_Machine, T_Machine, 7, rfl, by decide, i_Machine, rfl, (Or.inl (gT_in 244 (by decide +kernel) rfl))⟩
theorem F_Machine_34 : fm_F "AllocationProfiler$Machine" 34 5 3 := ⟨R_Machine, T_Machine, 7, rfl, by decide, i_Machine, rfl, (Or.inl (gT_in 246 (by decide +kernel) rfl))⟩
theorem F_Machine_40 : fm_F "AllocationProfiler$Machine" 40 5 4 := ⟨R_Machine, T_Machine, 7, rfl, by decide, i_Machine, rfl, (Or.inl (gT_in 248 (by decide +kernel) rfl))⟩
theorem F_Machine_44 : fm_F "AllocationProfiler$Machine" 44 5 5 := ⟨R_Machine, T_Machine, 7, rfl, by decide, i_Machine, rfl, (Or.inl (gT_in 250 (by decide +kernel) rfl))⟩
theorem F_Machine_44p : fm_Fp "AllocationProfiler$Machine" 44 5 5 .int := ⟨R_Machine, T_Machine, 7, t_Machine, rfl, by decide, i_Machine, rfl, t_Machine_ok, n_Machine, rfl, rfl, (Or.inl (gT_in 250 (by decide +kernel) rfl))⟩
theorem F_Machine_48 : fm_F "AllocationProfiler$Machine" 48 5 6 := ⟨R_Machine, T_Machine, 7, rfl, by decide, i_Machine, rfl, (Or.inl (gT_in 251 (by decide +kernel) rfl))⟩
theorem F_Machine_48p : fm_Fp "AllocationProfiler$Machine" 48 5 6 .int := ⟨R_Machine, T_Machine, 7, t_Machine, rfl, by decide, i_Machine, rfl, t_Machine_ok, n_Machine, rfl, rfl, (Or.inl (gT_in 251 (by decide +kernel) rfl))⟩
theorem F_Machine_69 : fm_F "AllocationProfiler$Machine" 69 2 2 := ⟨R_Frame, T_Frame, 5, rfl, by decide, i_Frame, rfl, (Or.inr ⟨"AllocationProfiler", (nW_in 205 (by decide +kernel) rfl)⟩)⟩
theorem F_Machine_74 : fm_F "AllocationProfiler$Machine" 74 6 1 := ⟨R_Method, T_Method, 5, rfl, by decide, i_Method, rfl, (Or.inr ⟨"AllocationProfiler", (nW_in 172 (by decide +kernel) rfl)⟩)⟩
theorem F_Machine_86 : fm_F "AllocationProfiler$Machine" 86 2 3 := ⟨R_Frame, T_Frame, 5, rfl, by decide, i_Frame, rfl, (Or.inr ⟨"AllocationProfiler", (nW_in 208 (by decide +kernel) rfl)⟩)⟩
theorem F_Machine_86p : fm_Fp "AllocationProfiler$Machine" 86 2 3 .int := ⟨R_Frame, T_Frame, 5, t_Frame, rfl, by decide, i_Frame, rfl, t_Frame_ok, n_Frame, rfl, rfl, (Or.inr ⟨"AllocationProfiler", (nW_in 208 (by decide +kernel) rfl)⟩)⟩
theorem F_Machine_145 : fm_F "AllocationProfiler$Machine" 145 7 1 := ⟨R_Strand, T_Strand, 5, rfl, by decide, i_Strand, rfl, (Or.inr ⟨"AllocationProfiler", (nW_in 223 (by decide +kernel) rfl)⟩)⟩
theorem F_Machine_167 : fm_F "AllocationProfiler$Machine" 167 7 2 := ⟨R_Strand, T_Strand, 5, rfl, by decide, i_Strand, rfl, (Or.inr ⟨"AllocationProfiler", (nW_in 225 (by decide +kernel) rfl)⟩)⟩
theorem F_Method_14 : fm_F "AllocationProfiler$Method" 14 6 0 := ⟨R_Method, T_Method, 5, rfl, by decide, i_Method, rfl, (Or.inl (gT_in 169 (by decide +kernel) rfl))⟩
theorem F_Method_20 : fm_F "AllocationProfiler$Method" 20 6 1 := ⟨R_Method, T_Method, 5, rfl, by decide, i_Method, rfl, (Or.inl (gT_in 171 (by decide +kernel) rfl))⟩
theorem F_Method_23 : fm_F "AllocationProfiler$Method" 23 6 2 := ⟨R_Method, T_Method, 5, rfl, by decide, i_Method, rfl, (Or.inl (gT_in 174 (by decide +kernel) rfl))⟩
theorem F_Method_27 : fm_F "AllocationProfiler$Method" 27 6 3 := ⟨R_Method, T_Method, 5, rfl, by decide, i_Method, rfl, (Or.inl (gT_in 176 (by decide +kernel) rfl))⟩
theorem F_Method_30 : fm_F "AllocationProfiler$Method" 30 6 4 := ⟨R_Method, T_Method, 5, rfl, by decide, i_Method, rfl, (Or.inl (gT_in 177 (by decide +kernel) rfl))⟩
theorem F_Method_47 : fm_F "AllocationProfiler$Method" 47 1 5 := ⟨R_Code, T_Code, 7, rfl, by decide, i_Code, rfl, (Or.inr ⟨"AllocationProfiler", (nW_in 149 (by decide +kernel) rfl)⟩)⟩
theorem F_Method_58 : fm_F "AllocationProfiler$Method" 58 1 0 := ⟨R_Code, T_Code, 7, rfl, by decide, i_Code, rfl, (Or.inr ⟨"AllocationProfiler", (nW_in 135 (by decide +kernel) rfl)⟩)⟩
theorem F_Method_61 : fm_F "AllocationProfiler$Method" 61 1 1 := ⟨R_Code, T_Code, 7, rfl, by decide, i_Code, rfl, (Or.inr ⟨"AllocationProfiler", (nW_in 137 (by decide +kernel) rfl)⟩)⟩
theorem F_Method_75 : fm_F "AllocationProfiler$Method" 75 1 6 := ⟨R_Code, T_Code, 7, rfl, by decide, i_Code, rfl, (Or.inr ⟨"AllocationProfiler", (nW_in 152 (by decide +kernel) rfl)⟩)⟩
theorem F_Method_78 : fm_F "AllocationProfiler$Method" 78 1 2 := ⟨R_Code, T_Code, 7, rfl, by decide, i_Code, rfl, (Or.inr ⟨"AllocationProfiler", (nW_in 139 (by decide +kernel) rfl)⟩)⟩
theorem F_Method_81 : fm_F "AllocationProfiler$Method" 81 1 3 := ⟨R_Code, T_Code, 7, rfl, by decide, i_Code, rfl, (Or.inr ⟨"AllocationProfiler", (nW_in 142 (by decide +kernel) rfl)⟩)⟩
theorem F_Method_84 : fm_F "AllocationProfiler$Method" 84 1 4 := ⟨R_Code, T_Code, 7, rfl, by decide, i_Code, rfl, (Or.inr ⟨"AllocationProfiler", (nW_in 145 (by decide +kernel) rfl)⟩)⟩
theorem F_Strand_11 : fm_F "AllocationProfiler$Strand" 11 7 0 := ⟨R_Strand, T_Strand, 5, rfl, by decide, i_Strand, rfl, (Or.inl (gT_in 221 (by decide +kernel) rfl))⟩
theorem F_Strand_17 : fm_F "AllocationProfiler$Strand" 17 7 2 := ⟨R_Strand, T_Strand, 5, rfl, by decide, i_Strand, rfl, (Or.inl (gT_in 224 (by decide +kernel) rfl))⟩
theorem F_Strand_17p : fm_Fp "AllocationProfiler$Strand" 17 7 2 .int := ⟨R_Strand, T_Strand, 5, t_Strand, rfl, by decide, i_Strand, rfl, t_Strand_ok, n_Strand, rfl, rfl, (Or.inl (gT_in 224 (by decide +kernel) rfl))⟩
theorem F_Strand_21 : fm_F "AllocationProfiler$Strand" 21 7 3 := ⟨R_Strand, T_Strand, 5, rfl, by decide, i_Strand, rfl, (Or.inl (gT_in 226 (by decide +kernel) rfl))⟩
theorem F_Strand_21p : fm_Fp "AllocationProfiler$Strand" 21 7 3 .int := ⟨R_Strand, T_Strand, 5, t_Strand, rfl, by decide, i_Strand, rfl, t_Strand_ok, n_Strand, rfl, rfl, (Or.inl (gT_in 226 (by decide +kernel) rfl))⟩
theorem F_Strand_24p : fm_Fp "AllocationProfiler$Strand" 24 7 4 .int := ⟨R_Strand, T_Strand, 5, t_Strand, rfl, by decide, i_Strand, rfl, t_Strand_ok, n_Strand, rfl, rfl, (Or.inl (gT_in 227 (by decide +kernel) rfl))⟩
theorem F_Strand_42 : fm_F "AllocationProfiler$Strand" 42 2 2 := ⟨R_Frame, T_Frame, 5, rfl, by decide, i_Frame, rfl, (Or.inr ⟨"AllocationProfiler", (nW_in 206 (by decide +kernel) rfl)⟩)⟩
theorem F_Types_9 : fm_F "AllocationProfiler$Types" 9 8 0 := ⟨R_Types, T_Types, 2, rfl, by decide, i_Types, rfl, (Or.inl (gT_in 41 (by decide +kernel) rfl))⟩
theorem F_Types_15 : fm_F "AllocationProfiler$Types" 15 8 1 := ⟨R_Types, T_Types, 2, rfl, by decide, i_Types, rfl, (Or.inl (gT_in 42 (by decide +kernel) rfl))⟩
theorem F_Types_15p : fm_Fp "AllocationProfiler$Types" 15 8 1 .int := ⟨R_Types, T_Types, 2, t_Types, rfl, by decide, i_Types, rfl, t_Types_ok, n_Types, rfl, rfl, (Or.inl (gT_in 42 (by decide +kernel) rfl))⟩
theorem F_Mo_7 : fm_F "AllocationProfilerModel" 7 10 2 := ⟨R_Mo, T_Mo, 48, rfl, by decide, i_Mo, rfl, (Or.inl (gT_in 979 (by decide +kernel) rfl))⟩
theorem F_Mo_13 : fm_F "AllocationProfilerModel" 13 10 3 := ⟨R_Mo, T_Mo, 48, rfl, by decide, i_Mo, rfl, (Or.inl (gT_in 980 (by decide +kernel) rfl))⟩
theorem F_Mo_16 : fm_F "AllocationProfilerModel" 16 10 5 := ⟨R_Mo, T_Mo, 48, rfl, by decide, i_Mo, rfl, (Or.inl (gT_in 982 (by decide +kernel) rfl))⟩
theorem F_Mo_19 : fm_F "AllocationProfilerModel" 19 10 6 := ⟨R_Mo, T_Mo, 48, rfl, by decide, i_Mo, rfl, (Or.inl (gT_in 983 (by decide +kernel) rfl))⟩
theorem F_Mo_22 : fm_F "AllocationProfilerModel" 22 10 8 := ⟨R_Mo, T_Mo, 48, rfl, by decide, i_Mo, rfl, (Or.inl (gT_in 985 (by decide +kernel) rfl))⟩
theorem F_Mo_25 : fm_F "AllocationProfilerModel" 25 10 10 := ⟨R_Mo, T_Mo, 48, rfl, by decide, i_Mo, rfl, (Or.inl (gT_in 987 (by decide +kernel) rfl))⟩
theorem F_Mo_25p : fm_Fp "AllocationProfilerModel" 25 10 10 .int := ⟨R_Mo, T_Mo, 48, t_Mo, rfl, by decide, i_Mo, rfl, t_Mo_ok, n_Mo, rfl, rfl, (Or.inl (gT_in 987 (by decide +kernel) rfl))⟩
theorem F_Mo_29 : fm_F "AllocationProfilerModel" 29 10 12 := ⟨R_Mo, T_Mo, 48, rfl, by decide, i_Mo, rfl, (Or.inl (gT_in 989 (by decide +kernel) rfl))⟩
theorem F_Mo_33 : fm_F "AllocationProfilerModel" 33 10 13 := ⟨R_Mo, T_Mo, 48, rfl, by decide, i_Mo, rfl, (Or.inl (gT_in 990 (by decide +kernel) rfl))⟩
theorem F_Mo_36 : fm_F "AllocationProfilerModel" 36 10 14 := ⟨R_Mo, T_Mo, 48, rfl, by decide, i_Mo, rfl, (Or.inl (gT_in 991 (by decide +kernel) rfl))⟩
theorem F_Mo_39 : fm_F "AllocationProfilerModel" 39 10 15 := ⟨R_Mo, T_Mo, 48, rfl, by decide, i_Mo, rfl, (Or.inl (gT_in 992 (by decide +kernel) rfl))⟩
theorem F_Mo_42 : fm_F "AllocationProfilerModel" 42 10 16 := ⟨R_Mo, T_Mo, 48, rfl, by decide, i_Mo, rfl, (Or.inl (gT_in 993 (by decide +kernel) rfl))⟩
theorem F_Mo_45 : fm_F "AllocationProfilerModel" 45 10 17 := ⟨R_Mo, T_Mo, 48, rfl, by decide, i_Mo, rfl, (Or.inl (gT_in 994 (by decide +kernel) rfl))⟩
theorem F_Mo_48 : fm_F "AllocationProfilerModel" 48 10 18 := ⟨R_Mo, T_Mo, 48, rfl, by decide, i_Mo, rfl, (Or.inl (gT_in 995 (by decide +kernel) rfl))⟩
theorem F_Mo_51 : fm_F "AllocationProfilerModel" 51 10 19 := ⟨R_Mo, T_Mo, 48, rfl, by decide, i_Mo, rfl, (Or.inl (gT_in 996 (by decide +kernel) rfl))⟩
theorem F_Mo_54 : fm_F "AllocationProfilerModel" 54 10 20 := ⟨R_Mo, T_Mo, 48, rfl, by decide, i_Mo, rfl, (Or.inl (gT_in 997 (by decide +kernel) rfl))⟩
theorem F_Mo_57 : fm_F "AllocationProfilerModel" 57 10 21 := ⟨R_Mo, T_Mo, 48, rfl, by decide, i_Mo, rfl, (Or.inl (gT_in 998 (by decide +kernel) rfl))⟩
theorem F_Mo_60 : fm_F "AllocationProfilerModel" 60 10 22 := ⟨R_Mo, T_Mo, 48, rfl, by decide, i_Mo, rfl, (Or.inl (gT_in 999 (by decide +kernel) rfl))⟩
theorem F_Mo_63 : fm_F "AllocationProfilerModel" 63 10 24 := ⟨R_Mo, T_Mo, 48, rfl, by decide, i_Mo, rfl, (Or.inl (gT_in 1001 (by decide +kernel) rfl))⟩
theorem F_Mo_66 : fm_F "AllocationProfilerModel" 66 10 25 := ⟨R_Mo, T_Mo, 48, rfl, by decide, i_Mo, rfl, (Or.inl (gT_in 1002 (by decide +kernel) rfl))⟩
theorem F_Mo_69 : fm_F "AllocationProfilerModel" 69 10 26 := ⟨R_Mo, T_Mo, 48, rfl, by decide, i_Mo, rfl, (Or.inl (gT_in 1003 (by decide +kernel) rfl))⟩
theorem F_Mo_72 : fm_F "AllocationProfilerModel" 72 10 27 := ⟨R_Mo, T_Mo, 48, rfl, by decide, i_Mo, rfl, (Or.inl (gT_in 1004 (by decide +kernel) rfl))⟩
theorem F_Mo_75 : fm_F "AllocationProfilerModel" 75 10 28 := ⟨R_Mo, T_Mo, 48, rfl, by decide, i_Mo, rfl, (Or.inl (gT_in 1005 (by decide +kernel) rfl))⟩
theorem F_Mo_78 : fm_F "AllocationProfilerModel" 78 10 29 := ⟨R_Mo, T_Mo, 48, rfl, by decide, i_Mo, rfl, (Or.inl (gT_in 1006 (by decide +kernel) rfl))⟩
theorem F_Mo_81 : fm_F "AllocationProfilerModel" 81 10 30 := ⟨R_Mo, T_Mo, 48, rfl, by decide, i_Mo, rfl, (Or.inl (gT_in 1007 (by decide +kernel) rfl))⟩
theorem F_Mo_84 : fm_F "AllocationProfilerModel" 84 10 31 := ⟨R_Mo, T_Mo, 48, rfl, by decide, i_Mo, rfl, (Or.inl (gT_in 1008 (by decide +kernel) rfl))⟩
theorem F_Mo_87 : fm_F "AllocationProfilerModel" 87 10 32 := ⟨R_Mo, T_Mo, 48, rfl, by decide, i_Mo, rfl, (Or.inl (gT_in 1009 (by decide +kernel) rfl))⟩
theorem F_Mo_90 : fm_F "AllocationProfilerModel" 90 10 36 := ⟨R_Mo, T_Mo, 48, rfl, by decide, i_Mo, rfl, (Or.inl (gT_in 1013 (by decide +kernel) rfl))⟩
theorem F_Mo_93 : fm_F "AllocationProfilerModel" 93 10 37 := ⟨R_Mo, T_Mo, 48, rfl, by decide, i_Mo, rfl, (Or.inl (gT_in 1014 (by decide +kernel) rfl))⟩
theorem F_Mo_97 : fm_F "AllocationProfilerModel" 97 10 38 := ⟨R_Mo, T_Mo, 48, rfl, by decide, i_Mo, rfl, (Or.inl (gT_in 1015 (by decide +kernel) rfl))⟩
theorem F_Mo_100 : fm_F "AllocationProfilerModel" 100 10 39 := ⟨R_Mo, T_Mo, 48, rfl, by decide, i_Mo, rfl, (Or.inl (gT_in 1016 (by decide +kernel) rfl))⟩
theorem F_Mo_103 : fm_F "AllocationProfilerModel" 103 10 40 := ⟨R_Mo, T_Mo, 48, rfl, by decide, i_Mo, rfl, (Or.inl (gT_in 1017 (by decide +kernel) rfl))⟩
theorem F_Mo_107 : fm_F "AllocationProfilerModel" 107 10 41 := ⟨R_Mo, T_Mo, 48, rfl, by decide, i_Mo, rfl, (Or.inl (gT_in 1018 (by decide +kernel) rfl))⟩
theorem F_Mo_110 : fm_F "AllocationProfilerModel" 110 10 43 := ⟨R_Mo, T_Mo, 48, rfl, by decide, i_Mo, rfl, (Or.inl (gT_in 1020 (by decide +kernel) rfl))⟩
theorem F_Mo_113 : fm_F "AllocationProfilerModel" 113 10 45 := ⟨R_Mo, T_Mo, 48, rfl, by decide, i_Mo, rfl, (Or.inl (gT_in 1022 (by decide +kernel) rfl))⟩
theorem F_Mo_116 : fm_F "AllocationProfilerModel" 116 10 46 := ⟨R_Mo, T_Mo, 48, rfl, by decide, i_Mo, rfl, (Or.inl (gT_in 1023 (by decide +kernel) rfl))⟩
theorem F_Mo_119 : fm_F "AllocationProfilerModel" 119 10 47 := ⟨R_Mo, T_Mo, 48, rfl, by decide, i_Mo, rfl, (Or.inl (gT_in 1024 (by decide +kernel) rfl))⟩
theorem F_Mo_122 : fm_F "AllocationProfilerModel" 122 10 0 := ⟨R_Mo, T_Mo, 48, rfl, by decide, i_Mo, rfl, (Or.inl (gT_in 977 (by decide +kernel) rfl))⟩
theorem F_Mo_122p : fm_Fp "AllocationProfilerModel" 122 10 0 .int := ⟨R_Mo, T_Mo, 48, t_Mo, rfl, by decide, i_Mo, rfl, t_Mo_ok, n_Mo, rfl, rfl, (Or.inl (gT_in 977 (by decide +kernel) rfl))⟩
theorem F_Mo_125 : fm_F "AllocationProfilerModel" 125 10 1 := ⟨R_Mo, T_Mo, 48, rfl, by decide, i_Mo, rfl, (Or.inl (gT_in 978 (by decide +kernel) rfl))⟩
theorem F_Mo_125p : fm_Fp "AllocationProfilerModel" 125 10 1 .int := ⟨R_Mo, T_Mo, 48, t_Mo, rfl, by decide, i_Mo, rfl, t_Mo_ok, n_Mo, rfl, rfl, (Or.inl (gT_in 978 (by decide +kernel) rfl))⟩
theorem F_Mo_132 : fm_F "AllocationProfilerModel" 132 10 11 := ⟨R_Mo, T_Mo, 48, rfl, by decide, i_Mo, rfl, (Or.inl (gT_in 988 (by decide +kernel) rfl))⟩
theorem F_Mo_132p : fm_Fp "AllocationProfilerModel" 132 10 11 .boolean := ⟨R_Mo, T_Mo, 48, t_Mo, rfl, by decide, i_Mo, rfl, t_Mo_ok, n_Mo, rfl, rfl, (Or.inl (gT_in 988 (by decide +kernel) rfl))⟩
theorem F_Mo_144 : fm_F "AllocationProfilerModel" 144 10 4 := ⟨R_Mo, T_Mo, 48, rfl, by decide, i_Mo, rfl, (Or.inl (gT_in 981 (by decide +kernel) rfl))⟩
theorem F_Mo_144p : fm_Fp "AllocationProfilerModel" 144 10 4 .int := ⟨R_Mo, T_Mo, 48, t_Mo, rfl, by decide, i_Mo, rfl, t_Mo_ok, n_Mo, rfl, rfl, (Or.inl (gT_in 981 (by decide +kernel) rfl))⟩
theorem F_Mo_147 : fm_F "AllocationProfilerModel" 147 10 7 := ⟨R_Mo, T_Mo, 48, rfl, by decide, i_Mo, rfl, (Or.inl (gT_in 984 (by decide +kernel) rfl))⟩
theorem F_Mo_147p : fm_Fp "AllocationProfilerModel" 147 10 7 .int := ⟨R_Mo, T_Mo, 48, t_Mo, rfl, by decide, i_Mo, rfl, t_Mo_ok, n_Mo, rfl, rfl, (Or.inl (gT_in 984 (by decide +kernel) rfl))⟩
theorem F_Mo_154 : fm_F "AllocationProfilerModel" 154 10 9 := ⟨R_Mo, T_Mo, 48, rfl, by decide, i_Mo, rfl, (Or.inl (gT_in 986 (by decide +kernel) rfl))⟩
theorem F_Mo_154p : fm_Fp "AllocationProfilerModel" 154 10 9 .int := ⟨R_Mo, T_Mo, 48, t_Mo, rfl, by decide, i_Mo, rfl, t_Mo_ok, n_Mo, rfl, rfl, (Or.inl (gT_in 986 (by decide +kernel) rfl))⟩
theorem F_Mo_192 : fm_F "AllocationProfilerModel" 192 10 23 := ⟨R_Mo, T_Mo, 48, rfl, by decide, i_Mo, rfl, (Or.inl (gT_in 1000 (by decide +kernel) rfl))⟩
theorem F_Mo_192p : fm_Fp "AllocationProfilerModel" 192 10 23 .int := ⟨R_Mo, T_Mo, 48, t_Mo, rfl, by decide, i_Mo, rfl, t_Mo_ok, n_Mo, rfl, rfl, (Or.inl (gT_in 1000 (by decide +kernel) rfl))⟩
theorem F_Mo_199 : fm_F "AllocationProfilerModel" 199 10 42 := ⟨R_Mo, T_Mo, 48, rfl, by decide, i_Mo, rfl, (Or.inl (gT_in 1019 (by decide +kernel) rfl))⟩
theorem F_Mo_199p : fm_Fp "AllocationProfilerModel" 199 10 42 .int := ⟨R_Mo, T_Mo, 48, t_Mo, rfl, by decide, i_Mo, rfl, t_Mo_ok, n_Mo, rfl, rfl, (Or.inl (gT_in 1019 (by decide +kernel) rfl))⟩
theorem F_Mo_219 : fm_F "AllocationProfilerModel" 219 10 44 := ⟨R_Mo, T_Mo, 48, rfl, by decide, i_Mo, rfl, (Or.inl (gT_in 1021 (by decide +kernel) rfl))⟩
theorem F_Mo_219p : fm_Fp "AllocationProfilerModel" 219 10 44 .int := ⟨R_Mo, T_Mo, 48, t_Mo, rfl, by decide, i_Mo, rfl, t_Mo_ok, n_Mo, rfl, rfl, (Or.inl (gT_in 1021 (by decide +kernel) rfl))⟩
theorem F_Mo_224 : fm_F "AllocationProfilerModel" 224 10 35 := ⟨R_Mo, T_Mo, 48, rfl, by decide, i_Mo, rfl, (Or.inl (gT_in 1012 (by decide +kernel) rfl))⟩
theorem F_Mo_224p : fm_Fp "AllocationProfilerModel" 224 10 35 .int := ⟨R_Mo, T_Mo, 48, t_Mo, rfl, by decide, i_Mo, rfl, t_Mo_ok, n_Mo, rfl, rfl, (Or.inl (gT_in 1012 (by decide +kernel) rfl))⟩
theorem F_Mo_260 : fm_F "AllocationProfilerModel" 260 10 33 := ⟨R_Mo, T_Mo, 48, rfl, by decide, i_Mo, rfl, (Or.inl (gT_in 1010 (by decide +kernel) rfl))⟩
theorem F_Mo_260p : fm_Fp "AllocationProfilerModel" 260 10 33 .int := ⟨R_Mo, T_Mo, 48, t_Mo, rfl, by decide, i_Mo, rfl, t_Mo_ok, n_Mo, rfl, rfl, (Or.inl (gT_in 1010 (by decide +kernel) rfl))⟩
theorem F_Mo_269 : fm_F "AllocationProfilerModel" 269 10 34 := ⟨R_Mo, T_Mo, 48, rfl, by decide, i_Mo, rfl, (Or.inl (gT_in 1011 (by decide +kernel) rfl))⟩
theorem F_Mo_269p : fm_Fp "AllocationProfilerModel" 269 10 34 .int := ⟨R_Mo, T_Mo, 48, t_Mo, rfl, by decide, i_Mo, rfl, t_Mo_ok, n_Mo, rfl, rfl, (Or.inl (gT_in 1011 (by decide +kernel) rfl))⟩
theorem L_Checker_22 : fm_LS "AllocationProfiler$Checker" 22 y_Checker_wrongArgument b_Checker_wrongArgument 4 (some .int) 3 := ⟨⟨(gT_in 501 (by decide +kernel) rfl), (gT_in 502 (by decide +kernel) rfl), (gT_in 10 (by decide +kernel) rfl), (gT_in 503 (by decide +kernel) rfl)⟩, by decide +kernel⟩
theorem L_Checker_26 : fm_LS "AllocationProfiler$Checker" 26 y_Checker_openEnd b_Checker_openEnd 2 (some .int) 1 := ⟨⟨(gT_in 530 (by decide +kernel) rfl), (gT_in 531 (by decide +kernel) rfl), (gT_in 10 (by decide +kernel) rfl), (gT_in 532 (by decide +kernel) rfl)⟩, by decide +kernel⟩
theorem L_Checker_30 : fm_LS "AllocationProfiler$Checker" 30 y_Checker_wrongRange b_Checker_wrongRange 3 (some .int) 1 := ⟨⟨(gT_in 536 (by decide +kernel) rfl), (gT_in 537 (by decide +kernel) rfl), (gT_in 10 (by decide +kernel) rfl), (gT_in 538 (by decide +kernel) rfl)⟩, by decide +kernel⟩
theorem L_Checker_33 : fm_LV "AllocationProfiler$Checker" 33 "AllocationProfiler$Checker" y_Checker_wrongDepth b_Checker_wrongDepth 3 (some .int) 1 := ⟨⟨(gT_in 539 (by decide +kernel) rfl), (gT_in 541 (by decide +kernel) rfl), (gT_pv 1 (by decide +kernel) rfl), (gT_in 10 (by decide +kernel) rfl), (gT_in 542 (by decide +kernel) rfl)⟩, by decide +kernel⟩
theorem L_Checker_41 : fm_LS "AllocationProfiler$Checker" 41 y_Checker_fits b_Checker_fits 6 (some .boolean) 4 := ⟨⟨(gT_in 504 (by decide +kernel) rfl), (gT_in 505 (by decide +kernel) rfl), (gT_in 10 (by decide +kernel) rfl), (gT_in 506 (by decide +kernel) rfl)⟩, by decide +kernel⟩
theorem L_Checker_45 : fm_LV "AllocationProfiler$Checker" 45 "AllocationProfiler$Code" y_Code_operationAt b_Code_operationAt 2 (some .int) 1 := ⟨⟨(gT_in 507 (by decide +kernel) rfl), (gT_in 508 (by decide +kernel) rfl), (gT_in 509 (by decide +kernel) rfl), (gT_in 7 (by decide +kernel) rfl), (gT_in 510 (by decide +kernel) rfl)⟩, by decide +kernel⟩
theorem L_Checker_49 : fm_LV "AllocationProfiler$Checker" 49 "AllocationProfiler$Code" y_Code_argumentAt b_Code_argumentAt 2 (some .int) 1 := ⟨⟨(gT_in 515 (by decide +kernel) rfl), (gT_in 516 (by decide +kernel) rfl), (gT_in 517 (by decide +kernel) rfl), (gT_in 7 (by decide +kernel) rfl), (gT_in 518 (by decide +kernel) rfl)⟩, by decide +kernel⟩
theorem L_Checker_52 : fm_LSN "AllocationProfiler$Checker" 52 "AllocationProfiler" y_AP_branches b_AP_branches 1 (some .boolean) 1 := ⟨⟨(nW_in 519 (by decide +kernel) rfl), (gT_in 520 (by decide +kernel) rfl), (gT_in 1 (by decide +kernel) rfl), (gT_in 521 (by decide +kernel) rfl)⟩, by decide +kernel⟩
theorem L_Checker_56 : fm_LV "AllocationProfiler$Checker" 56 "AllocationProfiler$Code" y_Code_has b_Code_has 2 (some .boolean) 1 := ⟨⟨(gT_in 522 (by decide +kernel) rfl), (gT_in 512 (by decide +kernel) rfl), (gT_in 513 (by decide +kernel) rfl), (gT_in 7 (by decide +kernel) rfl), (gT_in 514 (by decide +kernel) rfl)⟩, by decide +kernel⟩
theorem L_Checker_59 : fm_LSN "AllocationProfiler$Checker" 59 "AllocationProfiler" y_AP_isLocal b_AP_isLocal 1 (some .boolean) 1 := ⟨⟨(nW_in 523 (by decide +kernel) rfl), (gT_in 524 (by decide +kernel) rfl), (gT_in 1 (by decide +kernel) rfl), (gT_in 525 (by decide +kernel) rfl)⟩, by decide +kernel⟩
theorem L_Checker_62 : fm_LV "AllocationProfiler$Checker" 62 "AllocationProfiler$Types" y_Types_has b_Types_has 2 (some .boolean) 1 := ⟨⟨(gT_in 526 (by decide +kernel) rfl), (gT_in 330 (by decide +kernel) rfl), (gT_in 331 (by decide +kernel) rfl), (gT_in 3 (by decide +kernel) rfl), (gT_in 332 (by decide +kernel) rfl)⟩, by decide +kernel⟩
theorem L_Checker_65 : fm_LSN "AllocationProfiler$Checker" 65 "AllocationProfiler" y_AP_isWidth b_AP_isWidth 1 (some .boolean) 1 := ⟨⟨(nW_in 527 (by decide +kernel) rfl), (gT_in 528 (by decide +kernel) rfl), (gT_in 1 (by decide +kernel) rfl), (gT_in 529 (by decide +kernel) rfl)⟩, by decide +kernel⟩
theorem L_Checker_68 : fm_LSN "AllocationProfiler$Checker" 68 "AllocationProfiler" y_AP_closes b_AP_closes 1 (some .boolean) 1 := ⟨⟨(nW_in 533 (by decide +kernel) rfl), (gT_in 534 (by decide +kernel) rfl), (gT_in 1 (by decide +kernel) rfl), (gT_in 535 (by decide +kernel) rfl)⟩, by decide +kernel⟩
theorem L_Checker_83 : fm_LS "AllocationProfiler$Checker" 83 y_Arrays_fill b_Arrays_fill 4 none 2 := ⟨⟨(gT_in 543 (by decide +kernel) rfl), (gT_in 544 (by decide +kernel) rfl), (gT_in 17 (by decide +kernel) rfl), (gT_in 545 (by decide +kernel) rfl)⟩, by decide +kernel⟩
theorem L_Checker_89 : fm_LV "AllocationProfiler$Checker" 89 "AllocationProfiler$Checker" y_Checker_reach b_Checker_reach 3 none 2 := ⟨⟨(gT_in 546 (by decide +kernel) rfl), (gT_in 548 (by decide +kernel) rfl), (gT_pv 2 (by decide +kernel) rfl), (gT_in 10 (by decide +kernel) rfl), (gT_in 549 (by decide +kernel) rfl)⟩, by decide +kernel⟩
theorem L_Checker_93 : fm_LV "AllocationProfiler$Checker" 93 "AllocationProfiler$Checker" y_Checker_follow b_Checker_follow 7 none 3 := ⟨⟨(gT_in 550 (by decide +kernel) rfl), (gT_in 552 (by decide +kernel) rfl), (gT_pv 3 (by decide +kernel) rfl), (gT_in 10 (by decide +kernel) rfl), (gT_in 553 (by decide +kernel) rfl)⟩, by decide +kernel⟩
theorem L_Checker_97 : fm_LS "AllocationProfiler$Checker" 97 y_Checker_isReachedWrongly b_Checker_isReachedWrongly 4 (some .boolean) 2 := ⟨⟨(gT_in 562 (by decide +kernel) rfl), (gT_in 563 (by decide +kernel) rfl), (gT_in 10 (by decide +kernel) rfl), (gT_in 564 (by decide +kernel) rfl)⟩, by decide +kernel⟩
theorem L_Checker_107 : fm_LV "AllocationProfiler$Checker" 107 "AllocationProfiler$Code" y_Code_covers b_Code_covers 3 (some .boolean) 2 := ⟨⟨(gT_in 558 (by decide +kernel) rfl), (gT_in 559 (by decide +kernel) rfl), (gT_in 560 (by decide +kernel) rfl), (gT_in 7 (by decide +kernel) rfl), (gT_in 561 (by decide +kernel) rfl)⟩, by decide +kernel⟩
theorem L_Checker_110 : fm_LS "AllocationProfiler$Checker" 110 y_Integer_bitCount b_Integer_bitCount 1 (some .int) 1 := ⟨⟨(gT_in 565 (by decide +kernel) rfl), (gT_in 566 (by decide +kernel) rfl), (gT_in 18 (by decide +kernel) rfl), (gT_in 567 (by decide +kernel) rfl)⟩, by decide +kernel⟩
theorem L_Code_34 : fm_LV "AllocationProfiler$Code" 34 "AllocationProfiler$Code" y_Code_isFull b_Code_isFull 1 (some .boolean) 0 := ⟨⟨(gT_in 467 (by decide +kernel) rfl), (gT_in 459 (by decide +kernel) rfl), (gT_in 460 (by decide +kernel) rfl), (gT_in 7 (by decide +kernel) rfl), (gT_in 461 (by decide +kernel) rfl)⟩, by decide +kernel⟩
theorem L_Code_38 : fm_LV "AllocationProfiler$Code" 38 "AllocationProfiler$Code" y_Code_hasAllRanges b_Code_hasAllRanges 1 (some .boolean) 0 := ⟨⟨(gT_in 484 (by decide +kernel) rfl), (gT_in 476 (by decide +kernel) rfl), (gT_in 477 (by decide +kernel) rfl), (gT_in 7 (by decide +kernel) rfl), (gT_in 478 (by decide +kernel) rfl)⟩, by decide +kernel⟩
theorem L_Code_41 : fm_LV "AllocationProfiler$Code" 41 "AllocationProfiler$Code" y_Code_clear b_Code_clear 1 none 0 := ⟨⟨(gT_in 580 (by decide +kernel) rfl), (gT_in 493 (by decide +kernel) rfl), (gT_in 494 (by decide +kernel) rfl), (gT_in 7 (by decide +kernel) rfl), (gT_in 495 (by decide +kernel) rfl)⟩, by decide +kernel⟩
theorem L_Code_44 : fm_LV "AllocationProfiler$Code" 44 "AllocationProfiler$Code" y_Code_append b_Code_append 3 (some .int) 2 := ⟨⟨(gT_in 581 (by decide +kernel) rfl), (gT_in 464 (by decide +kernel) rfl), (gT_in 465 (by decide +kernel) rfl), (gT_in 7 (by decide +kernel) rfl), (gT_in 466 (by decide +kernel) rfl)⟩, by decide +kernel⟩
theorem L_Code_48 : fm_LV "AllocationProfiler$Code" 48 "AllocationProfiler$Code" y_Code_appendRange b_Code_appendRange 4 (some .int) 3 := ⟨⟨(gT_in 582 (by decide +kernel) rfl), (gT_in 481 (by decide +kernel) rfl), (gT_in 482 (by decide +kernel) rfl), (gT_in 7 (by decide +kernel) rfl), (gT_in 483 (by decide +kernel) rfl)⟩, by decide +kernel⟩
theorem L_Code_52 : fm_LV "AllocationProfiler$Code" 52 "AllocationProfiler$Code" y_Code_has b_Code_has 2 (some .boolean) 1 := ⟨⟨(gT_in 511 (by decide +kernel) rfl), (gT_in 512 (by decide +kernel) rfl), (gT_in 513 (by decide +kernel) rfl), (gT_in 7 (by decide +kernel) rfl), (gT_in 514 (by decide +kernel) rfl)⟩, by decide +kernel⟩
theorem L_Code_56 : fm_LV "AllocationProfiler$Code" 56 "AllocationProfiler$Code" y_Code_covers b_Code_covers 3 (some .boolean) 2 := ⟨⟨(gT_in 782 (by decide +kernel) rfl), (gT_in 559 (by decide +kernel) rfl), (gT_in 560 (by decide +kernel) rfl), (gT_in 7 (by decide +kernel) rfl), (gT_in 561 (by decide +kernel) rfl)⟩, by decide +kernel⟩
theorem L_Code_60 : fm_LV "AllocationProfiler$Code" 60 "AllocationProfiler$Code" y_Code_operationAt b_Code_operationAt 2 (some .int) 1 := ⟨⟨(gT_in 672 (by decide +kernel) rfl), (gT_in 508 (by decide +kernel) rfl), (gT_in 509 (by decide +kernel) rfl), (gT_in 7 (by decide +kernel) rfl), (gT_in 510 (by decide +kernel) rfl)⟩, by decide +kernel⟩
theorem L_Code_64 : fm_LV "AllocationProfiler$Code" 64 "AllocationProfiler$Code" y_Code_argumentAt b_Code_argumentAt 2 (some .int) 1 := ⟨⟨(gT_in 673 (by decide +kernel) rfl), (gT_in 516 (by decide +kernel) rfl), (gT_in 517 (by decide +kernel) rfl), (gT_in 7 (by decide +kernel) rfl), (gT_in 518 (by decide +kernel) rfl)⟩, by decide +kernel⟩
theorem L_Code_67 : fm_LV "AllocationProfiler$Code" 67 "AllocationProfiler$Code" y_Code_hasRange b_Code_hasRange 2 (some .boolean) 1 := ⟨⟨(gT_in 674 (by decide +kernel) rfl), (gT_in 649 (by decide +kernel) rfl), (gT_in 650 (by decide +kernel) rfl), (gT_in 7 (by decide +kernel) rfl), (gT_in 651 (by decide +kernel) rfl)⟩, by decide +kernel⟩
theorem L_Frame_28 : fm_LS "AllocationProfiler$Frame" 28 y_Arrays_fill b_Arrays_fill 4 none 2 := ⟨⟨(gT_in 728 (by decide +kernel) rfl), (gT_in 544 (by decide +kernel) rfl), (gT_in 17 (by decide +kernel) rfl), (gT_in 545 (by decide +kernel) rfl)⟩, by decide +kernel⟩
theorem L_Frame_34 : fm_LV "AllocationProfiler$Frame" 34 "AllocationProfiler$Frame" y_Frame_push b_Frame_push 2 none 1 := ⟨⟨(gT_in 787 (by decide +kernel) rfl), (gT_in 788 (by decide +kernel) rfl), (gT_in 789 (by decide +kernel) rfl), (gT_in 9 (by decide +kernel) rfl), (gT_in 790 (by decide +kernel) rfl)⟩, by decide +kernel⟩
theorem L_Frame_38 : fm_LSN "AllocationProfiler$Frame" 38 "AllocationProfiler" y_AP_isLocal b_AP_isLocal 1 (some .boolean) 1 := ⟨⟨(nW_in 841 (by decide +kernel) rfl), (gT_in 524 (by decide +kernel) rfl), (gT_in 1 (by decide +kernel) rfl), (gT_in 525 (by decide +kernel) rfl)⟩, by decide +kernel⟩
theorem L_Frame_42 : fm_LV "AllocationProfiler$Frame" 42 "AllocationProfiler$Frame" y_Frame_pop b_Frame_pop 1 (some .int) 0 := ⟨⟨(gT_in 760 (by decide +kernel) rfl), (gT_in 761 (by decide +kernel) rfl), (gT_in 762 (by decide +kernel) rfl), (gT_in 9 (by decide +kernel) rfl), (gT_in 763 (by decide +kernel) rfl)⟩, by decide +kernel⟩
theorem L_Frame_46 : fm_LV "AllocationProfiler$Frame" 46 "AllocationProfiler$Frame" y_Frame_store b_Frame_store 3 none 2 := ⟨⟨(gT_in 842 (by decide +kernel) rfl), (gT_in 844 (by decide +kernel) rfl), (gT_pv 16 (by decide +kernel) rfl), (gT_in 9 (by decide +kernel) rfl), (gT_in 845 (by decide +kernel) rfl)⟩, by decide +kernel⟩
theorem L_Frame_50 : fm_LV "AllocationProfiler$Frame" 50 "AllocationProfiler$Frame" y_Frame_duplicate b_Frame_duplicate 2 none 0 := ⟨⟨(gT_in 846 (by decide +kernel) rfl), (gT_in 848 (by decide +kernel) rfl), (gT_pv 17 (by decide +kernel) rfl), (gT_in 9 (by decide +kernel) rfl), (gT_in 849 (by decide +kernel) rfl)⟩, by decide +kernel⟩
theorem L_Frame_53 : fm_LV "AllocationProfiler$Frame" 53 "AllocationProfiler$Frame" y_Frame_combine b_Frame_combine 4 none 1 := ⟨⟨(gT_in 850 (by decide +kernel) rfl), (gT_in 852 (by decide +kernel) rfl), (gT_pv 18 (by decide +kernel) rfl), (gT_in 9 (by decide +kernel) rfl), (gT_in 853 (by decide +kernel) rfl)⟩, by decide +kernel⟩
theorem L_Ledger_55 : fm_LS "AllocationProfiler$Ledger" 55 y_Arrays_fill b_Arrays_fill 4 none 2 := ⟨⟨(gT_in 630 (by decide +kernel) rfl), (gT_in 544 (by decide +kernel) rfl), (gT_in 17 (by decide +kernel) rfl), (gT_in 545 (by decide +kernel) rfl)⟩, by decide +kernel⟩
theorem L_Ledger_61 : fm_LV "AllocationProfiler$Ledger" 61 "AllocationProfiler$Ledger" y_Ledger_drawSamples b_Ledger_drawSamples 4 (some .int) 2 := ⟨⟨(gT_in 808 (by decide +kernel) rfl), (gT_in 810 (by decide +kernel) rfl), (gT_pv 11 (by decide +kernel) rfl), (gT_in 5 (by decide +kernel) rfl), (gT_in 811 (by decide +kernel) rfl)⟩, by decide +kernel⟩
theorem L_Ledger_65 : fm_LV "AllocationProfiler$Ledger" 65 "AllocationProfiler$Ledger" y_Ledger_countInEntry b_Ledger_countInEntry 5 none 3 := ⟨⟨(gT_in 812 (by decide +kernel) rfl), (gT_in 814 (by decide +kernel) rfl), (gT_pv 12 (by decide +kernel) rfl), (gT_in 5 (by decide +kernel) rfl), (gT_in 815 (by decide +kernel) rfl)⟩, by decide +kernel⟩
theorem L_Ledger_71 : fm_LV "AllocationProfiler$Ledger" 71 "AllocationProfiler$Ledger" y_Ledger_bytesOfAll b_Ledger_bytesOfAll 4 (some .long) 0 := ⟨⟨(gT_in 943 (by decide +kernel) rfl), (gT_in 945 (by decide +kernel) rfl), (gT_pv 21 (by decide +kernel) rfl), (gT_in 5 (by decide +kernel) rfl), (gT_in 946 (by decide +kernel) rfl)⟩, by decide +kernel⟩
theorem L_Ledger_75 : fm_LV "AllocationProfiler$Ledger" 75 "AllocationProfiler$Ledger" y_Ledger_bytesOf b_Ledger_bytesOf 6 (some .long) 2 := ⟨⟨(gT_in 947 (by decide +kernel) rfl), (gT_in 914 (by decide +kernel) rfl), (gT_in 915 (by decide +kernel) rfl), (gT_in 5 (by decide +kernel) rfl), (gT_in 916 (by decide +kernel) rfl)⟩, by decide +kernel⟩
theorem L_Ledger_79 : fm_LV "AllocationProfiler$Ledger" 79 "AllocationProfiler$Ledger" y_Ledger_samplesOfAll b_Ledger_samplesOfAll 4 (some .long) 0 := ⟨⟨(gT_in 959 (by decide +kernel) rfl), (gT_in 961 (by decide +kernel) rfl), (gT_pv 22 (by decide +kernel) rfl), (gT_in 5 (by decide +kernel) rfl), (gT_in 962 (by decide +kernel) rfl)⟩, by decide +kernel⟩
theorem L_Ledger_82 : fm_LV "AllocationProfiler$Ledger" 82 "AllocationProfiler$Ledger" y_Ledger_entryOf b_Ledger_entryOf 4 (some .int) 2 := ⟨⟨(gT_in 816 (by decide +kernel) rfl), (gT_in 818 (by decide +kernel) rfl), (gT_pv 13 (by decide +kernel) rfl), (gT_in 5 (by decide +kernel) rfl), (gT_in 819 (by decide +kernel) rfl)⟩, by decide +kernel⟩
theorem L_Machine_55 : fm_LV "AllocationProfiler$Machine" 55 "AllocationProfiler$Strand" y_Strand_isRunning b_Strand_isRunning 1 (some .boolean) 0 := ⟨⟨(gT_in 741 (by decide +kernel) rfl), (gT_in 712 (by decide +kernel) rfl), (gT_in 713 (by decide +kernel) rfl), (gT_in 8 (by decide +kernel) rfl), (gT_in 714 (by decide +kernel) rfl)⟩, by decide +kernel⟩
theorem L_Machine_59 : fm_LV "AllocationProfiler$Machine" 59 "AllocationProfiler$Machine" y_Machine_perform b_Machine_perform 5 none 1 := ⟨⟨(gT_in 742 (by decide +kernel) rfl), (gT_in 744 (by decide +kernel) rfl), (gT_pv 7 (by decide +kernel) rfl), (gT_in 2 (by decide +kernel) rfl), (gT_in 745 (by decide +kernel) rfl)⟩, by decide +kernel⟩
theorem L_Machine_63 : fm_LV "AllocationProfiler$Machine" 63 "AllocationProfiler$Machine" y_Machine_countStep b_Machine_countStep 1 none 0 := ⟨⟨(gT_in 854 (by decide +kernel) rfl), (gT_in 856 (by decide +kernel) rfl), (gT_pv 19 (by decide +kernel) rfl), (gT_in 2 (by decide +kernel) rfl), (gT_in 857 (by decide +kernel) rfl)⟩, by decide +kernel⟩
theorem L_Machine_66 : fm_LV "AllocationProfiler$Machine" 66 "AllocationProfiler$Ledger" y_Ledger_fade b_Ledger_fade 2 none 0 := ⟨⟨(gT_in 858 (by decide +kernel) rfl), (gT_in 859 (by decide +kernel) rfl), (gT_in 860 (by decide +kernel) rfl), (gT_in 5 (by decide +kernel) rfl), (gT_in 861 (by decide +kernel) rfl)⟩, by decide +kernel⟩
theorem L_Machine_78 : fm_LV "AllocationProfiler$Machine" 78 "AllocationProfiler$Strand" y_Strand_top b_Strand_top 1 (some (.object "AllocationProfiler$Frame")) 0 := ⟨⟨(gT_in 746 (by decide +kernel) rfl), (gT_in 747 (by decide +kernel) rfl), (gT_in 748 (by decide +kernel) rfl), (gT_in 8 (by decide +kernel) rfl), (gT_in 749 (by decide +kernel) rfl)⟩, by decide +kernel⟩
theorem L_Machine_82 : fm_LV "AllocationProfiler$Machine" 82 "AllocationProfiler$Machine" y_Machine_codeOf b_Machine_codeOf 2 (some (.object "AllocationProfiler$Code")) 1 := ⟨⟨(gT_in 750 (by decide +kernel) rfl), (gT_in 752 (by decide +kernel) rfl), (gT_pv 8 (by decide +kernel) rfl), (gT_in 2 (by decide +kernel) rfl), (gT_in 753 (by decide +kernel) rfl)⟩, by decide +kernel⟩
theorem L_Machine_89 : fm_LV "AllocationProfiler$Machine" 89 "AllocationProfiler$Code" y_Code_operationAt b_Code_operationAt 2 (some .int) 1 := ⟨⟨(gT_in 754 (by decide +kernel) rfl), (gT_in 508 (by decide +kernel) rfl), (gT_in 509 (by decide +kernel) rfl), (gT_in 7 (by decide +kernel) rfl), (gT_in 510 (by decide +kernel) rfl)⟩, by decide +kernel⟩
theorem L_Machine_95 : fm_LV "AllocationProfiler$Machine" 95 "AllocationProfiler$Code" y_Code_argumentAt b_Code_argumentAt 2 (some .int) 1 := ⟨⟨(gT_in 755 (by decide +kernel) rfl), (gT_in 516 (by decide +kernel) rfl), (gT_in 517 (by decide +kernel) rfl), (gT_in 7 (by decide +kernel) rfl), (gT_in 518 (by decide +kernel) rfl)⟩, by decide +kernel⟩
theorem L_Machine_98 : fm_LV "AllocationProfiler$Machine" 98 "AllocationProfiler$Frame" y_Frame_branch b_Frame_branch 4 none 2 := ⟨⟨(gT_in 756 (by decide +kernel) rfl), (gT_in 757 (by decide +kernel) rfl), (gT_in 758 (by decide +kernel) rfl), (gT_in 9 (by decide +kernel) rfl), (gT_in 759 (by decide +kernel) rfl)⟩, by decide +kernel⟩
theorem L_Machine_102 : fm_LV "AllocationProfiler$Machine" 102 "AllocationProfiler$Types" y_Types_sizeOf b_Types_sizeOf 2 (some .int) 1 := ⟨⟨(gT_in 764 (by decide +kernel) rfl), (gT_in 447 (by decide +kernel) rfl), (gT_in 448 (by decide +kernel) rfl), (gT_in 3 (by decide +kernel) rfl), (gT_in 449 (by decide +kernel) rfl)⟩, by decide +kernel⟩
theorem L_Machine_105 : fm_LV "AllocationProfiler$Machine" 105 "AllocationProfiler$Machine" y_Machine_make b_Machine_make 7 none 2 := ⟨⟨(gT_in 765 (by decide +kernel) rfl), (gT_in 767 (by decide +kernel) rfl), (gT_pv 9 (by decide +kernel) rfl), (gT_in 2 (by decide +kernel) rfl), (gT_in 768 (by decide +kernel) rfl)⟩, by decide +kernel⟩
theorem L_Machine_109 : fm_LV "AllocationProfiler$Machine" 109 "AllocationProfiler$Frame" y_Frame_pop b_Frame_pop 1 (some .int) 0 := ⟨⟨(gT_in 820 (by decide +kernel) rfl), (gT_in 761 (by decide +kernel) rfl), (gT_in 762 (by decide +kernel) rfl), (gT_in 9 (by decide +kernel) rfl), (gT_in 763 (by decide +kernel) rfl)⟩, by decide +kernel⟩
theorem L_Machine_113 : fm_LS "AllocationProfiler$Machine" 113 y_Machine_arraySize b_Machine_arraySize 2 (some .long) 2 := ⟨⟨(gT_in 821 (by decide +kernel) rfl), (gT_in 822 (by decide +kernel) rfl), (gT_in 2 (by decide +kernel) rfl), (gT_in 823 (by decide +kernel) rfl)⟩, by decide +kernel⟩
theorem L_Machine_117 : fm_LV "AllocationProfiler$Machine" 117 "AllocationProfiler$Machine" y_Machine_callMethod b_Machine_callMethod 4 none 3 := ⟨⟨(gT_in 827 (by decide +kernel) rfl), (gT_in 829 (by decide +kernel) rfl), (gT_pv 14 (by decide +kernel) rfl), (gT_in 2 (by decide +kernel) rfl), (gT_in 830 (by decide +kernel) rfl)⟩, by decide +kernel⟩
theorem L_Machine_121 : fm_LV "AllocationProfiler$Machine" 121 "AllocationProfiler$Machine" y_Machine_giveBack b_Machine_giveBack 3 none 2 := ⟨⟨(gT_in 833 (by decide +kernel) rfl), (gT_in 835 (by decide +kernel) rfl), (gT_pv 15 (by decide +kernel) rfl), (gT_in 2 (by decide +kernel) rfl), (gT_in 836 (by decide +kernel) rfl)⟩, by decide +kernel⟩
theorem L_Machine_125 : fm_LV "AllocationProfiler$Machine" 125 "AllocationProfiler$Machine" y_Machine_raise b_Machine_raise 6 none 2 := ⟨⟨(gT_in 774 (by decide +kernel) rfl), (gT_in 776 (by decide +kernel) rfl), (gT_pv 10 (by decide +kernel) rfl), (gT_in 2 (by decide +kernel) rfl), (gT_in 777 (by decide +kernel) rfl)⟩, by decide +kernel⟩
theorem L_Machine_128 : fm_LV "AllocationProfiler$Machine" 128 "AllocationProfiler$Frame" y_Frame_compute b_Frame_compute 3 none 2 := ⟨⟨(gT_in 837 (by decide +kernel) rfl), (gT_in 838 (by decide +kernel) rfl), (gT_in 839 (by decide +kernel) rfl), (gT_in 9 (by decide +kernel) rfl), (gT_in 840 (by decide +kernel) rfl)⟩, by decide +kernel⟩
theorem L_Machine_135 : fm_LSN "AllocationProfiler$Machine" 135 "AllocationProfiler" y_AP_nextMultiple b_AP_nextMultiple 3 (some .long) 2 := ⟨⟨(nW_in 826 (by decide +kernel) rfl), (gT_in 435 (by decide +kernel) rfl), (gT_in 1 (by decide +kernel) rfl), (gT_in 436 (by decide +kernel) rfl)⟩, by decide +kernel⟩
theorem L_Machine_139 : fm_LV "AllocationProfiler$Machine" 139 "AllocationProfiler$Heap" y_Heap_make b_Heap_make 3 (some .int) 1 := ⟨⟨(gT_in 769 (by decide +kernel) rfl), (gT_in 770 (by decide +kernel) rfl), (gT_in 771 (by decide +kernel) rfl), (gT_in 4 (by decide +kernel) rfl), (gT_in 772 (by decide +kernel) rfl)⟩, by decide +kernel⟩
theorem L_Machine_142 : fm_LV "AllocationProfiler$Machine" 142 "AllocationProfiler$Frame" y_Frame_push b_Frame_push 2 none 1 := ⟨⟨(gT_in 799 (by decide +kernel) rfl), (gT_in 788 (by decide +kernel) rfl), (gT_in 789 (by decide +kernel) rfl), (gT_in 9 (by decide +kernel) rfl), (gT_in 790 (by decide +kernel) rfl)⟩, by decide +kernel⟩
theorem L_Machine_148 : fm_LV "AllocationProfiler$Machine" 148 "AllocationProfiler$Strand" y_Strand_stackNumber b_Strand_stackNumber 3 (some .int) 0 := ⟨⟨(gT_in 800 (by decide +kernel) rfl), (gT_in 801 (by decide +kernel) rfl), (gT_in 802 (by decide +kernel) rfl), (gT_in 8 (by decide +kernel) rfl), (gT_in 803 (by decide +kernel) rfl)⟩, by decide +kernel⟩
theorem L_Machine_151 : fm_LV "AllocationProfiler$Machine" 151 "AllocationProfiler$Ledger" y_Ledger_report b_Ledger_report 6 none 4 := ⟨⟨(gT_in 804 (by decide +kernel) rfl), (gT_in 805 (by decide +kernel) rfl), (gT_in 806 (by decide +kernel) rfl), (gT_in 5 (by decide +kernel) rfl), (gT_in 807 (by decide +kernel) rfl)⟩, by decide +kernel⟩
theorem L_Machine_155 : fm_LV "AllocationProfiler$Machine" 155 "AllocationProfiler$Strand" y_Strand_isDeep b_Strand_isDeep 1 (some .boolean) 0 := ⟨⟨(gT_in 831 (by decide +kernel) rfl), (gT_in 721 (by decide +kernel) rfl), (gT_in 722 (by decide +kernel) rfl), (gT_in 8 (by decide +kernel) rfl), (gT_in 723 (by decide +kernel) rfl)⟩, by decide +kernel⟩
theorem L_Machine_158 : fm_LV "AllocationProfiler$Machine" 158 "AllocationProfiler$Strand" y_Strand_enter b_Strand_enter 3 none 2 := ⟨⟨(gT_in 832 (by decide +kernel) rfl), (gT_in 717 (by decide +kernel) rfl), (gT_in 718 (by decide +kernel) rfl), (gT_in 8 (by decide +kernel) rfl), (gT_in 719 (by decide +kernel) rfl)⟩, by decide +kernel⟩
theorem L_Machine_161 : fm_LV "AllocationProfiler$Machine" 161 "AllocationProfiler$Strand" y_Strand_leave b_Strand_leave 1 none 0 := ⟨⟨(gT_in 791 (by decide +kernel) rfl), (gT_in 792 (by decide +kernel) rfl), (gT_in 793 (by decide +kernel) rfl), (gT_in 8 (by decide +kernel) rfl), (gT_in 794 (by decide +kernel) rfl)⟩, by decide +kernel⟩
theorem L_Machine_164 : fm_LV "AllocationProfiler$Machine" 164 "AllocationProfiler$Strand" y_Strand_end b_Strand_end 3 none 2 := ⟨⟨(gT_in 795 (by decide +kernel) rfl), (gT_in 796 (by decide +kernel) rfl), (gT_in 797 (by decide +kernel) rfl), (gT_in 8 (by decide +kernel) rfl), (gT_in 798 (by decide +kernel) rfl)⟩, by decide +kernel⟩
theorem L_Machine_170 : fm_LV "AllocationProfiler$Machine" 170 "AllocationProfiler$Code" y_Code_handlerFor b_Code_handlerFor 3 (some .int) 1 := ⟨⟨(gT_in 778 (by decide +kernel) rfl), (gT_in 779 (by decide +kernel) rfl), (gT_in 780 (by decide +kernel) rfl), (gT_in 7 (by decide +kernel) rfl), (gT_in 781 (by decide +kernel) rfl)⟩, by decide +kernel⟩
theorem L_Machine_173 : fm_LV "AllocationProfiler$Machine" 173 "AllocationProfiler$Frame" y_Frame_catchAt b_Frame_catchAt 3 none 2 := ⟨⟨(gT_in 783 (by decide +kernel) rfl), (gT_in 784 (by decide +kernel) rfl), (gT_in 785 (by decide +kernel) rfl), (gT_in 9 (by decide +kernel) rfl), (gT_in 786 (by decide +kernel) rfl)⟩, by decide +kernel⟩
theorem L_Method_34 : fm_LV "AllocationProfiler$Method" 34 "AllocationProfiler$Code" y_Code_copy b_Code_copy 3 none 1 := ⟨⟨(gT_in 576 (by decide +kernel) rfl), (gT_in 577 (by decide +kernel) rfl), (gT_in 578 (by decide +kernel) rfl), (gT_in 7 (by decide +kernel) rfl), (gT_in 579 (by decide +kernel) rfl)⟩, by decide +kernel⟩
theorem L_Method_38 : fm_LS "AllocationProfiler$Method" 38 y_Arrays_fill b_Arrays_fill 4 none 2 := ⟨⟨(gT_in 583 (by decide +kernel) rfl), (gT_in 544 (by decide +kernel) rfl), (gT_in 17 (by decide +kernel) rfl), (gT_in 545 (by decide +kernel) rfl)⟩, by decide +kernel⟩
theorem L_Method_44 : fm_LV "AllocationProfiler$Method" 44 "AllocationProfiler$Method" y_Method_findPlaces b_Method_findPlaces 3 none 0 := ⟨⟨(gT_in 611 (by decide +kernel) rfl), (gT_in 613 (by decide +kernel) rfl), (gT_pv 5 (by decide +kernel) rfl), (gT_in 6 (by decide +kernel) rfl), (gT_in 614 (by decide +kernel) rfl)⟩, by decide +kernel⟩
theorem L_Method_51 : fm_LV "AllocationProfiler$Method" 51 "AllocationProfiler$Method" y_Method_placeOf b_Method_placeOf 2 (some .int) 1 := ⟨⟨(gT_in 618 (by decide +kernel) rfl), (gT_in 620 (by decide +kernel) rfl), (gT_pv 6 (by decide +kernel) rfl), (gT_in 6 (by decide +kernel) rfl), (gT_in 621 (by decide +kernel) rfl)⟩, by decide +kernel⟩
theorem L_Method_55 : fm_LV "AllocationProfiler$Method" 55 "AllocationProfiler$Code" y_Code_clear b_Code_clear 1 none 0 := ⟨⟨(gT_in 622 (by decide +kernel) rfl), (gT_in 493 (by decide +kernel) rfl), (gT_in 494 (by decide +kernel) rfl), (gT_in 7 (by decide +kernel) rfl), (gT_in 495 (by decide +kernel) rfl)⟩, by decide +kernel⟩
theorem L_Method_64 : fm_LSN "AllocationProfiler$Method" 64 "AllocationProfiler" y_AP_branches b_AP_branches 1 (some .boolean) 1 := ⟨⟨(nW_in 623 (by decide +kernel) rfl), (gT_in 520 (by decide +kernel) rfl), (gT_in 1 (by decide +kernel) rfl), (gT_in 521 (by decide +kernel) rfl)⟩, by decide +kernel⟩
theorem L_Method_68 : fm_LV "AllocationProfiler$Method" 68 "AllocationProfiler$Code" y_Code_append b_Code_append 3 (some .int) 2 := ⟨⟨(gT_in 624 (by decide +kernel) rfl), (gT_in 464 (by decide +kernel) rfl), (gT_in 465 (by decide +kernel) rfl), (gT_in 7 (by decide +kernel) rfl), (gT_in 466 (by decide +kernel) rfl)⟩, by decide +kernel⟩
theorem L_Method_72 : fm_LSN "AllocationProfiler$Method" 72 "AllocationProfiler" y_AP_makesObject b_AP_makesObject 1 (some .boolean) 1 := ⟨⟨(nW_in 615 (by decide +kernel) rfl), (gT_in 616 (by decide +kernel) rfl), (gT_in 1 (by decide +kernel) rfl), (gT_in 617 (by decide +kernel) rfl)⟩, by decide +kernel⟩
theorem L_Method_87 : fm_LV "AllocationProfiler$Method" 87 "AllocationProfiler$Code" y_Code_appendRange b_Code_appendRange 4 (some .int) 3 := ⟨⟨(gT_in 625 (by decide +kernel) rfl), (gT_in 481 (by decide +kernel) rfl), (gT_in 482 (by decide +kernel) rfl), (gT_in 7 (by decide +kernel) rfl), (gT_in 483 (by decide +kernel) rfl)⟩, by decide +kernel⟩
theorem L_Strand_31 : fm_LV "AllocationProfiler$Strand" 31 "AllocationProfiler$Strand" y_Strand_isRunning b_Strand_isRunning 1 (some .boolean) 0 := ⟨⟨(gT_in 875 (by decide +kernel) rfl), (gT_in 712 (by decide +kernel) rfl), (gT_in 713 (by decide +kernel) rfl), (gT_in 8 (by decide +kernel) rfl), (gT_in 714 (by decide +kernel) rfl)⟩, by decide +kernel⟩
theorem L_Strand_35 : fm_LV "AllocationProfiler$Strand" 35 "AllocationProfiler$Strand" y_Strand_isDeep b_Strand_isDeep 1 (some .boolean) 0 := ⟨⟨(gT_in 720 (by decide +kernel) rfl), (gT_in 721 (by decide +kernel) rfl), (gT_in 722 (by decide +kernel) rfl), (gT_in 8 (by decide +kernel) rfl), (gT_in 723 (by decide +kernel) rfl)⟩, by decide +kernel⟩
theorem L_Strand_38 : fm_LV "AllocationProfiler$Strand" 38 "AllocationProfiler$Frame" y_Frame_begin b_Frame_begin 3 none 2 := ⟨⟨(gT_in 724 (by decide +kernel) rfl), (gT_in 725 (by decide +kernel) rfl), (gT_in 726 (by decide +kernel) rfl), (gT_in 9 (by decide +kernel) rfl), (gT_in 727 (by decide +kernel) rfl)⟩, by decide +kernel⟩
theorem L_Types_19 : fm_LV "AllocationProfiler$Types" 19 "AllocationProfiler$Types" y_Types_has b_Types_has 2 (some .boolean) 1 := ⟨⟨(gT_in 430 (by decide +kernel) rfl), (gT_in 330 (by decide +kernel) rfl), (gT_in 331 (by decide +kernel) rfl), (gT_in 3 (by decide +kernel) rfl), (gT_in 332 (by decide +kernel) rfl)⟩, by decide +kernel⟩
theorem L_Types_23 : fm_LS "AllocationProfiler$Types" 23 y_Types_endBehind b_Types_endBehind 3 (some .int) 3 := ⟨⟨(gT_in 431 (by decide +kernel) rfl), (gT_in 432 (by decide +kernel) rfl), (gT_in 3 (by decide +kernel) rfl), (gT_in 433 (by decide +kernel) rfl)⟩, by decide +kernel⟩
theorem L_Types_27 : fm_LV "AllocationProfiler$Types" 27 "AllocationProfiler$Types" y_Types_isFull b_Types_isFull 1 (some .boolean) 0 := ⟨⟨(gT_in 437 (by decide +kernel) rfl), (gT_in 407 (by decide +kernel) rfl), (gT_in 408 (by decide +kernel) rfl), (gT_in 3 (by decide +kernel) rfl), (gT_in 409 (by decide +kernel) rfl)⟩, by decide +kernel⟩
theorem L_Types_31 : fm_LSN "AllocationProfiler$Types" 31 "AllocationProfiler" y_AP_nextMultiple b_AP_nextMultiple 3 (some .long) 2 := ⟨⟨(nW_in 434 (by decide +kernel) rfl), (gT_in 435 (by decide +kernel) rfl), (gT_in 1 (by decide +kernel) rfl), (gT_in 436 (by decide +kernel) rfl)⟩, by decide +kernel⟩
theorem L_Mo_128 : fm_LS "AllocationProfilerModel" 128 y_Mo_out b_Mo_out 2 (some .boolean) 2 := ⟨⟨(gT_in 1131 (by decide +kernel) rfl), (gT_in 1132 (by decide +kernel) rfl), (gT_in 11 (by decide +kernel) rfl), (gT_in 1133 (by decide +kernel) rfl)⟩, by decide +kernel⟩
theorem L_Mo_136 : fm_LS "AllocationProfilerModel" 136 y_Mo_upTo b_Mo_upTo 3 (some .int) 2 := ⟨⟨(gT_in 1134 (by decide +kernel) rfl), (gT_in 1135 (by decide +kernel) rfl), (gT_in 11 (by decide +kernel) rfl), (gT_in 1136 (by decide +kernel) rfl)⟩, by decide +kernel⟩
theorem L_Mo_140 : fm_LV "AllocationProfilerModel" 140 "AllocationProfilerModel" y_Mo_fail b_Mo_fail 2 (some .int) 1 := ⟨⟨(gT_in 1141 (by decide +kernel) rfl), (gT_in 1143 (by decide +kernel) rfl), (gT_pv 23 (by decide +kernel) rfl), (gT_in 11 (by decide +kernel) rfl), (gT_in 1144 (by decide +kernel) rfl)⟩, by decide +kernel⟩
theorem L_Mo_150 : fm_LS "AllocationProfilerModel" 150 y_Mo_jumps b_Mo_jumps 1 (some .boolean) 1 := ⟨⟨(gT_in 1165 (by decide +kernel) rfl), (gT_in 1166 (by decide +kernel) rfl), (gT_in 11 (by decide +kernel) rfl), (gT_in 1167 (by decide +kernel) rfl)⟩, by decide +kernel⟩
theorem L_Mo_157 : fm_LS "AllocationProfilerModel" 157 y_Mo_takes b_Mo_takes 1 (some .int) 1 := ⟨⟨(gT_in 1179 (by decide +kernel) rfl), (gT_in 1180 (by decide +kernel) rfl), (gT_in 11 (by decide +kernel) rfl), (gT_in 1181 (by decide +kernel) rfl)⟩, by decide +kernel⟩
theorem L_Mo_160 : fm_LS "AllocationProfilerModel" 160 y_Mo_puts b_Mo_puts 1 (some .int) 1 := ⟨⟨(gT_in 1182 (by decide +kernel) rfl), (gT_in 1183 (by decide +kernel) rfl), (gT_in 11 (by decide +kernel) rfl), (gT_in 1184 (by decide +kernel) rfl)⟩, by decide +kernel⟩
theorem L_Mo_163 : fm_LS "AllocationProfilerModel" 163 y_Mo_goesOn b_Mo_goesOn 1 (some .boolean) 1 := ⟨⟨(gT_in 1168 (by decide +kernel) rfl), (gT_in 1169 (by decide +kernel) rfl), (gT_in 11 (by decide +kernel) rfl), (gT_in 1170 (by decide +kernel) rfl)⟩, by decide +kernel⟩
theorem L_Mo_166 : fm_LV "AllocationProfilerModel" 166 "AllocationProfilerModel" y_Mo_reach b_Mo_reach 3 (some .boolean) 2 := ⟨⟨(gT_in 1185 (by decide +kernel) rfl), (gT_in 1187 (by decide +kernel) rfl), (gT_pv 28 (by decide +kernel) rfl), (gT_in 11 (by decide +kernel) rfl), (gT_in 1188 (by decide +kernel) rfl)⟩, by decide +kernel⟩
theorem L_Mo_169 : fm_LV "AllocationProfilerModel" 169 "AllocationProfilerModel" y_Mo_follow b_Mo_follow 8 (some .boolean) 2 := ⟨⟨(gT_in 1175 (by decide +kernel) rfl), (gT_in 1177 (by decide +kernel) rfl), (gT_pv 27 (by decide +kernel) rfl), (gT_in 11 (by decide +kernel) rfl), (gT_in 1178 (by decide +kernel) rfl)⟩, by decide +kernel⟩
theorem L_Mo_172 : fm_LV "AllocationProfilerModel" 172 "AllocationProfilerModel" y_Mo_fits b_Mo_fits 3 (some .boolean) 2 := ⟨⟨(gT_in 1161 (by decide +kernel) rfl), (gT_in 1163 (by decide +kernel) rfl), (gT_pv 25 (by decide +kernel) rfl), (gT_in 11 (by decide +kernel) rfl), (gT_in 1164 (by decide +kernel) rfl)⟩, by decide +kernel⟩
theorem L_Mo_175 : fm_LV "AllocationProfilerModel" 175 "AllocationProfilerModel" y_Mo_badDepth b_Mo_badDepth 7 (some .int) 0 := ⟨⟨(gT_in 1171 (by decide +kernel) rfl), (gT_in 1173 (by decide +kernel) rfl), (gT_pv 26 (by decide +kernel) rfl), (gT_in 11 (by decide +kernel) rfl), (gT_in 1174 (by decide +kernel) rfl)⟩, by decide +kernel⟩
theorem L_Mo_179 : fm_LV "AllocationProfilerModel" 179 "AllocationProfilerModel" y_Mo_malformed b_Mo_malformed 4 (some .int) 0 := ⟨⟨(gT_in 1157 (by decide +kernel) rfl), (gT_in 1159 (by decide +kernel) rfl), (gT_pv 24 (by decide +kernel) rfl), (gT_in 11 (by decide +kernel) rfl), (gT_in 1160 (by decide +kernel) rfl)⟩, by decide +kernel⟩
theorem L_Mo_182 : fm_LV "AllocationProfilerModel" 182 "AllocationProfilerModel" y_Mo_same b_Mo_same 3 none 1 := ⟨⟨(gT_in 1189 (by decide +kernel) rfl), (gT_in 1191 (by decide +kernel) rfl), (gT_pv 29 (by decide +kernel) rfl), (gT_in 11 (by decide +kernel) rfl), (gT_in 1192 (by decide +kernel) rfl)⟩, by decide +kernel⟩
theorem L_Mo_186 : fm_LS "AllocationProfilerModel" 186 y_Mo_makes b_Mo_makes 1 (some .boolean) 1 := ⟨⟨(gT_in 1214 (by decide +kernel) rfl), (gT_in 1215 (by decide +kernel) rfl), (gT_in 11 (by decide +kernel) rfl), (gT_in 1216 (by decide +kernel) rfl)⟩, by decide +kernel⟩
theorem L_Mo_189 : fm_LV "AllocationProfilerModel" 189 "AllocationProfilerModel" y_Mo_moved b_Mo_moved 5 (some .int) 2 := ⟨⟨(gT_in 1210 (by decide +kernel) rfl), (gT_in 1212 (by decide +kernel) rfl), (gT_pv 31 (by decide +kernel) rfl), (gT_in 11 (by decide +kernel) rfl), (gT_in 1213 (by decide +kernel) rfl)⟩, by decide +kernel⟩
theorem L_Mo_196 : fm_LV "AllocationProfilerModel" 196 "AllocationProfilerModel" y_Mo_weaveOne b_Mo_weaveOne 7 none 1 := ⟨⟨(gT_in 1206 (by decide +kernel) rfl), (gT_in 1208 (by decide +kernel) rfl), (gT_pv 30 (by decide +kernel) rfl), (gT_in 11 (by decide +kernel) rfl), (gT_in 1209 (by decide +kernel) rfl)⟩, by decide +kernel⟩
theorem L_Mo_202 : fm_LV "AllocationProfilerModel" 202 "AllocationProfilerModel" y_Mo_enter b_Mo_enter 6 none 3 := ⟨⟨(gT_in 1233 (by decide +kernel) rfl), (gT_in 1235 (by decide +kernel) rfl), (gT_pv 32 (by decide +kernel) rfl), (gT_in 11 (by decide +kernel) rfl), (gT_in 1236 (by decide +kernel) rfl)⟩, by decide +kernel⟩
theorem L_Mo_206 : fm_LV "AllocationProfilerModel" 206 "AllocationProfilerModel" y_Mo_handler b_Mo_handler 5 (some .int) 2 := ⟨⟨(gT_in 1270 (by decide +kernel) rfl), (gT_in 1272 (by decide +kernel) rfl), (gT_pv 40 (by decide +kernel) rfl), (gT_in 11 (by decide +kernel) rfl), (gT_in 1273 (by decide +kernel) rfl)⟩, by decide +kernel⟩
theorem L_Mo_209 : fm_LV "AllocationProfilerModel" 209 "AllocationProfilerModel" y_Mo_push b_Mo_push 3 none 2 := ⟨⟨(gT_in 1249 (by decide +kernel) rfl), (gT_in 1251 (by decide +kernel) rfl), (gT_pv 35 (by decide +kernel) rfl), (gT_in 11 (by decide +kernel) rfl), (gT_in 1252 (by decide +kernel) rfl)⟩, by decide +kernel⟩
theorem L_Mo_213 : fm_LV "AllocationProfilerModel" 213 "AllocationProfilerModel" y_Mo_stackOf b_Mo_stackOf 4 (some .int) 1 := ⟨⟨(gT_in 1278 (by decide +kernel) rfl), (gT_in 1280 (by decide +kernel) rfl), (gT_pv 42 (by decide +kernel) rfl), (gT_in 11 (by decide +kernel) rfl), (gT_in 1281 (by decide +kernel) rfl)⟩, by decide +kernel⟩
theorem L_Mo_216 : fm_LV "AllocationProfilerModel" 216 "AllocationProfilerModel" y_Mo_sample b_Mo_sample 4 none 2 := ⟨⟨(gT_in 1282 (by decide +kernel) rfl), (gT_in 1284 (by decide +kernel) rfl), (gT_pv 43 (by decide +kernel) rfl), (gT_in 11 (by decide +kernel) rfl), (gT_in 1285 (by decide +kernel) rfl)⟩, by decide +kernel⟩
theorem L_Mo_227 : fm_LV "AllocationProfilerModel" 227 "AllocationProfilerModel" y_Mo_raise b_Mo_raise 5 none 2 := ⟨⟨(gT_in 1266 (by decide +kernel) rfl), (gT_in 1268 (by decide +kernel) rfl), (gT_pv 39 (by decide +kernel) rfl), (gT_in 11 (by decide +kernel) rfl), (gT_in 1269 (by decide +kernel) rfl)⟩, by decide +kernel⟩
theorem L_Mo_230 : fm_LV "AllocationProfilerModel" 230 "AllocationProfilerModel" y_Mo_report b_Mo_report 4 none 3 := ⟨⟨(gT_in 1274 (by decide +kernel) rfl), (gT_in 1276 (by decide +kernel) rfl), (gT_pv 41 (by decide +kernel) rfl), (gT_in 11 (by decide +kernel) rfl), (gT_in 1277 (by decide +kernel) rfl)⟩, by decide +kernel⟩
theorem L_Mo_239 : fm_LV "AllocationProfilerModel" 239 "AllocationProfilerModel" y_Mo_pop b_Mo_pop 2 (some .int) 1 := ⟨⟨(gT_in 1253 (by decide +kernel) rfl), (gT_in 1255 (by decide +kernel) rfl), (gT_pv 36 (by decide +kernel) rfl), (gT_in 11 (by decide +kernel) rfl), (gT_in 1256 (by decide +kernel) rfl)⟩, by decide +kernel⟩
theorem L_Mo_242 : fm_LV "AllocationProfilerModel" 242 "AllocationProfilerModel" y_Mo_reckon b_Mo_reckon 5 none 3 := ⟨⟨(gT_in 1257 (by decide +kernel) rfl), (gT_in 1259 (by decide +kernel) rfl), (gT_pv 37 (by decide +kernel) rfl), (gT_in 11 (by decide +kernel) rfl), (gT_in 1260 (by decide +kernel) rfl)⟩, by decide +kernel⟩
theorem L_Mo_245 : fm_LV "AllocationProfilerModel" 245 "AllocationProfilerModel" y_Mo_allocate b_Mo_allocate 6 none 3 := ⟨⟨(gT_in 1261 (by decide +kernel) rfl), (gT_in 1263 (by decide +kernel) rfl), (gT_pv 38 (by decide +kernel) rfl), (gT_in 11 (by decide +kernel) rfl), (gT_in 1264 (by decide +kernel) rfl)⟩, by decide +kernel⟩
theorem L_Mo_249 : fm_LV "AllocationProfilerModel" 249 "AllocationProfilerModel" y_Mo_take b_Mo_take 6 none 5 := ⟨⟨(gT_in 1286 (by decide +kernel) rfl), (gT_in 1288 (by decide +kernel) rfl), (gT_pv 44 (by decide +kernel) rfl), (gT_in 11 (by decide +kernel) rfl), (gT_in 1289 (by decide +kernel) rfl)⟩, by decide +kernel⟩
theorem L_Mo_253 : fm_LS "AllocationProfilerModel" 253 y_Mo_arraySize b_Mo_arraySize 4 (some .long) 2 := ⟨⟨(gT_in 1290 (by decide +kernel) rfl), (gT_in 1291 (by decide +kernel) rfl), (gT_in 11 (by decide +kernel) rfl), (gT_in 1292 (by decide +kernel) rfl)⟩, by decide +kernel⟩
theorem L_Mo_257 : fm_LV "AllocationProfilerModel" 257 "AllocationProfilerModel" y_Mo_leave b_Mo_leave 3 none 2 := ⟨⟨(gT_in 1296 (by decide +kernel) rfl), (gT_in 1298 (by decide +kernel) rfl), (gT_pv 45 (by decide +kernel) rfl), (gT_in 11 (by decide +kernel) rfl), (gT_in 1299 (by decide +kernel) rfl)⟩, by decide +kernel⟩
theorem L_Mo_263 : fm_LV "AllocationProfilerModel" 263 "AllocationProfilerModel" y_Mo_next b_Mo_next 2 (some .int) 0 := ⟨⟨(gT_in 1241 (by decide +kernel) rfl), (gT_in 1243 (by decide +kernel) rfl), (gT_pv 33 (by decide +kernel) rfl), (gT_in 11 (by decide +kernel) rfl), (gT_in 1244 (by decide +kernel) rfl)⟩, by decide +kernel⟩
theorem L_Mo_266 : fm_LV "AllocationProfilerModel" 266 "AllocationProfilerModel" y_Mo_execute b_Mo_execute 6 none 1 := ⟨⟨(gT_in 1245 (by decide +kernel) rfl), (gT_in 1247 (by decide +kernel) rfl), (gT_pv 34 (by decide +kernel) rfl), (gT_in 11 (by decide +kernel) rfl), (gT_in 1248 (by decide +kernel) rfl)⟩, by decide +kernel⟩
theorem L_Mo_272 : fm_LV "AllocationProfilerModel" 272 "AllocationProfilerModel" y_Mo_fade b_Mo_fade 4 none 0 := ⟨⟨(gT_in 1300 (by decide +kernel) rfl), (gT_in 1302 (by decide +kernel) rfl), (gT_pv 46 (by decide +kernel) rfl), (gT_in 11 (by decide +kernel) rfl), (gT_in 1303 (by decide +kernel) rfl)⟩, by decide +kernel⟩
theorem L_Mo_275 : fm_LS "AllocationProfilerModel" 275 y_Mo_all b_Mo_all 2 (some .long) 2 := ⟨⟨(gT_in 1304 (by decide +kernel) rfl), (gT_in 1305 (by decide +kernel) rfl), (gT_in 11 (by decide +kernel) rfl), (gT_in 1306 (by decide +kernel) rfl)⟩, by decide +kernel⟩
theorem L_Mo_281 : fm_LV "AllocationProfilerModel" 281 "AllocationProfilerModel" y_Mo_allBytes b_Mo_allBytes 4 (some .long) 0 := ⟨⟨(gT_in 1337 (by decide +kernel) rfl), (gT_in 1339 (by decide +kernel) rfl), (gT_pv 47 (by decide +kernel) rfl), (gT_in 11 (by decide +kernel) rfl), (gT_in 1340 (by decide +kernel) rfl)⟩, by decide +kernel⟩
theorem L_Mo_285 : fm_LV "AllocationProfilerModel" 285 "AllocationProfilerModel" y_Mo_estimated b_Mo_estimated 4 (some .double) 1 := ⟨⟨(gT_in 1345 (by decide +kernel) rfl), (gT_in 1347 (by decide +kernel) rfl), (gT_pv 48 (by decide +kernel) rfl), (gT_in 11 (by decide +kernel) rfl), (gT_in 1348 (by decide +kernel) rfl)⟩, by decide +kernel⟩
