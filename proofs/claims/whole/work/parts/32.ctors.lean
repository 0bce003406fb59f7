/-! the links of the constructors -/
theorem aC_int : Cond.arrayClass .int ∈ gT := (gT_in 48 (by decide +kernel) rfl)
theorem aC_long : Cond.arrayClass .long ∈ gT := (gT_in 119 (by decide +kernel) rfl)
theorem aC_float : Cond.arrayClass .float ∈ gT := (gT_in 120 (by decide +kernel) rfl)
theorem aC_double : Cond.arrayClass .double ∈ gT := (gT_in 1354 (by decide +kernel) rfl)
theorem aC_boolean : Cond.arrayClass .boolean ∈ gT := (gT_in 1122 (by decide +kernel) rfl)
theorem oI : Cond.instanceMethod Lib.objectInit ∈ gT := (gT_in 27 (by decide +kernel) rfl)
theorem oC : Cond.code Lib.objectInit ⟨#[0xb1]⟩ 1 none ∈ gT := (gT_in 28 (by decide +kernel) rfl)
theorem N_AP_9 : cn_N "AllocationProfiler" 9 5 7 [some none, some none, some none, some none, some none, none, none] := ⟨R_Machine, T_Machine, t_Machine, rfl, i_Machine, t_Machine_ok, (gT_in 29 (by decide +kernel) rfl), (gT_in 30 (by decide +kernel) rfl), (gT_in 2 (by decide +kernel) rfl), by decide, by decide +kernel⟩
theorem N_AP_36 : cn_N "AllocationProfiler" 36 1 7 [some none, some none, some none, some none, some none, none, none] := ⟨R_Code, T_Code, t_Code, rfl, i_Code, t_Code_ok, (gT_in 267 (by decide +kernel) rfl), (gT_in 129 (by decide +kernel) rfl), (gT_in 7 (by decide +kernel) rfl), by decide, by decide +kernel⟩
theorem N_AP_45 : cn_N "AllocationProfiler" 45 0 3 [some none, some none, none] := ⟨R_Checker, T_Checker, t_Checker, rfl, i_Checker, t_Checker_ok, (gT_in 269 (by decide +kernel) rfl), (gT_in 270 (by decide +kernel) rfl), (gT_in 10 (by decide +kernel) rfl), by decide, by decide +kernel⟩
theorem N_Machine_9 : cn_N "AllocationProfiler$Machine" 9 8 2 [some none, none] := ⟨R_Types, T_Types, t_Types, rfl, i_Types, t_Types_ok, (gT_in 35 (by decide +kernel) rfl), (gT_in 36 (by decide +kernel) rfl), (gT_in 3 (by decide +kernel) rfl), by decide, by decide +kernel⟩
theorem N_Machine_18 : cn_N "AllocationProfiler$Machine" 18 6 5 [some none, some none, some none, some none, none] := ⟨R_Method, T_Method, t_Method, rfl, i_Method, t_Method_ok, (gT_in 49 (by decide +kernel) rfl), (gT_in 123 (by decide +kernel) rfl), (gT_in 6 (by decide +kernel) rfl), by decide, by decide +kernel⟩
theorem N_Machine_24 : cn_N "AllocationProfiler$Machine" 24 3 2 [some none, none] := ⟨R_Heap, T_Heap, t_Heap, rfl, i_Heap, t_Heap_ok, (gT_in 51 (by decide +kernel) rfl), (gT_in 52 (by decide +kernel) rfl), (gT_in 4 (by decide +kernel) rfl), by decide, by decide +kernel⟩
theorem N_Machine_31 : cn_N "AllocationProfiler$Machine" 31 4 12 [some none, some none, some none, some none, some none, some none, some none, some none, some none, none, none, none] := ⟨R_Ledger, T_Ledger, t_Ledger, rfl, i_Ledger, t_Ledger_ok, (gT_in 65 (by decide +kernel) rfl), (gT_in 66 (by decide +kernel) rfl), (gT_in 5 (by decide +kernel) rfl), by decide, by decide +kernel⟩
theorem N_Machine_38 : cn_N "AllocationProfiler$Machine" 38 7 5 [some none, none, none, none, none] := ⟨R_Strand, T_Strand, t_Strand, rfl, i_Strand, t_Strand_ok, (gT_in 121 (by decide +kernel) rfl), (gT_in 190 (by decide +kernel) rfl), (gT_in 8 (by decide +kernel) rfl), by decide, by decide +kernel⟩
theorem N_Method_9 : cn_N "AllocationProfiler$Method" 9 1 7 [some none, some none, some none, some none, some none, none, none] := ⟨R_Code, T_Code, t_Code, rfl, i_Code, t_Code_ok, (gT_in 128 (by decide +kernel) rfl), (gT_in 129 (by decide +kernel) rfl), (gT_in 7 (by decide +kernel) rfl), by decide, by decide +kernel⟩
theorem N_Strand_9 : cn_N "AllocationProfiler$Strand" 9 2 5 [some none, some none, none, none, none] := ⟨R_Frame, T_Frame, t_Frame, rfl, i_Frame, t_Frame_ok, (gT_in 195 (by decide +kernel) rfl), (gT_in 197 (by decide +kernel) rfl), (gT_in 9 (by decide +kernel) rfl), by decide, by decide +kernel⟩
theorem N_Law_8 : cn_N "AllocationProfilerLaw" 8 9 10 [some none, some none, some none, some none, some none, some none, some none, none, none, none] := ⟨R_AP, T_AP, t_AP, rfl, i_AP, t_AP_ok, (gT_in 21 (by decide +kernel) rfl), (gT_in 22 (by decide +kernel) rfl), (gT_in 1 (by decide +kernel) rfl), by decide, by decide +kernel⟩
theorem N_Law_93 : cn_N "AllocationProfilerLaw" 93 10 48 [none, none, some none, some none, none, some none, some none, none, some none, none, none, none, some none, some none, some none, some none, some none, some none, some none, some none, some none, some none, some none, none, some none, some none, some none, some none, some none, some none, some none, some none, some none, none, none, none, some none, some none, some none, some none, some none, some none, none, some none, none, some none, some none, some none] := ⟨R_Mo, T_Mo, t_Mo, rfl, i_Mo, t_Mo_ok, (gT_in 971 (by decide +kernel) rfl), (gT_in 972 (by decide +kernel) rfl), (gT_in 11 (by decide +kernel) rfl), by decide, by decide +kernel⟩
theorem Fg_AP_12 : fm_F "AllocationProfiler" 12 9 0 := ⟨R_AP, T_AP, 10, rfl, by decide, i_AP, rfl, (Or.inl (gT_in 285 (by decide +kernel) rfl))⟩
theorem Fg_AP_16 : fm_F "AllocationProfiler" 16 5 0 := ⟨R_Machine, T_Machine, 7, rfl, by decide, i_Machine, rfl, (Or.inr ⟨"AllocationProfiler", (nW_in 241 (by decide +kernel) rfl)⟩)⟩
theorem Fg_AP_21 : fm_F "AllocationProfiler" 21 5 1 := ⟨R_Machine, T_Machine, 7, rfl, by decide, i_Machine, rfl, (Or.inr ⟨"AllocationProfiler", (nW_in 243 (by decide +kernel) rfl)⟩)⟩
theorem Fg_AP_26 : fm_F "AllocationProfiler" 26 5 2 := ⟨R_Machine, T_Machine, 7, rfl, by decide, i_Machine, rfl, (Or.inr ⟨"AllocationProfiler", (nW_in 245 (by decide +kernel) rfl)⟩)⟩
theorem Fg_AP_31 : fm_F "AllocationProfiler" 31 5 3 := ⟨R_Machine, T_Machine, 7, rfl, by decide, i_Machine, rfl, (Or.inr ⟨"AllocationProfiler", (nW_in 247 (by decide +kernel) rfl)⟩)⟩
theorem Fg_Machine_20 : fm_F "AllocationProfiler$Machine" 20 5 1 := ⟨R_Machine, T_Machine, 7, rfl, by decide, i_Machine, rfl, (Or.inl (gT_in 242 (by decide +kernel) rfl))⟩
theorem Fg_Machine_40 : fm_F "AllocationProfiler$Machine" 40 5 4 := ⟨R_Machine, T_Machine, 7, rfl, by decide, i_Machine, rfl, (Or.inl (gT_in 248 (by decide +kernel) rfl))⟩
theorem Fg_Strand_11 : fm_F "AllocationProfiler$Strand" 11 7 0 := ⟨R_Strand, T_Strand, 5, rfl, by decide, i_Strand, rfl, (Or.inl (gT_in 221 (by decide +kernel) rfl))⟩
theorem Fi_AP_52 : fm_Fp "AllocationProfiler" 52 9 7 .int := ⟨R_AP, T_AP, 10, t_AP, rfl, by decide, i_AP, rfl, t_AP_ok, n_AP, rfl, rfl, (Or.inl (gT_in 292 (by decide +kernel) rfl))⟩
theorem Fi_AP_56 : fm_Fp "AllocationProfiler" 56 9 8 .int := ⟨R_AP, T_AP, 10, t_AP, rfl, by decide, i_AP, rfl, t_AP_ok, n_AP, rfl, rfl, (Or.inl (gT_in 293 (by decide +kernel) rfl))⟩
theorem Fi_AP_59 : fm_Fp "AllocationProfiler" 59 9 9 .boolean := ⟨R_AP, T_AP, 10, t_AP, rfl, by decide, i_AP, rfl, t_AP_ok, n_AP, rfl, rfl, (Or.inl (gT_in 294 (by decide +kernel) rfl))⟩
theorem Fi_Checker_18 : fm_Fp "AllocationProfiler$Checker" 18 0 2 .int := ⟨R_Checker, T_Checker, 3, t_Checker, rfl, by decide, i_Checker, rfl, t_Checker_ok, n_Checker, rfl, rfl, (Or.inl (gT_in 277 (by decide +kernel) rfl))⟩
theorem Fi_Code_21 : fm_Fp "AllocationProfiler$Code" 21 1 5 .int := ⟨R_Code, T_Code, 7, t_Code, rfl, by decide, i_Code, rfl, t_Code_ok, n_Code, rfl, rfl, (Or.inl (gT_in 147 (by decide +kernel) rfl))⟩
theorem Fi_Code_25 : fm_Fp "AllocationProfiler$Code" 25 1 6 .int := ⟨R_Code, T_Code, 7, t_Code, rfl, by decide, i_Code, rfl, t_Code_ok, n_Code, rfl, rfl, (Or.inl (gT_in 151 (by decide +kernel) rfl))⟩
theorem Fi_Frame_18 : fm_Fp "AllocationProfiler$Frame" 18 2 2 .int := ⟨R_Frame, T_Frame, 5, t_Frame, rfl, by decide, i_Frame, rfl, t_Frame_ok, n_Frame, rfl, rfl, (Or.inl (gT_in 204 (by decide +kernel) rfl))⟩
theorem Fi_Frame_22 : fm_Fp "AllocationProfiler$Frame" 22 2 3 .int := ⟨R_Frame, T_Frame, 5, t_Frame, rfl, by decide, i_Frame, rfl, t_Frame_ok, n_Frame, rfl, rfl, (Or.inl (gT_in 207 (by decide +kernel) rfl))⟩
theorem Fi_Frame_25 : fm_Fp "AllocationProfiler$Frame" 25 2 4 .int := ⟨R_Frame, T_Frame, 5, t_Frame, rfl, by decide, i_Frame, rfl, t_Frame_ok, n_Frame, rfl, rfl, (Or.inl (gT_in 209 (by decide +kernel) rfl))⟩
theorem Fi_Heap_15 : fm_Fp "AllocationProfiler$Heap" 15 3 1 .int := ⟨R_Heap, T_Heap, 2, t_Heap, rfl, by decide, i_Heap, rfl, t_Heap_ok, n_Heap, rfl, rfl, (Or.inl (gT_in 58 (by decide +kernel) rfl))⟩
theorem Fi_Ledger_45 : fm_Fp "AllocationProfiler$Ledger" 45 4 9 .int := ⟨R_Ledger, T_Ledger, 12, t_Ledger, rfl, by decide, i_Ledger, rfl, t_Ledger_ok, n_Ledger, rfl, rfl, (Or.inl (gT_in 89 (by decide +kernel) rfl))⟩
theorem Fi_Ledger_49 : fm_Fp "AllocationProfiler$Ledger" 49 4 10 .int := ⟨R_Ledger, T_Ledger, 12, t_Ledger, rfl, by decide, i_Ledger, rfl, t_Ledger_ok, n_Ledger, rfl, rfl, (Or.inl (gT_in 91 (by decide +kernel) rfl))⟩
theorem Fi_Ledger_52 : fm_Fp "AllocationProfiler$Ledger" 52 4 11 .int := ⟨R_Ledger, T_Ledger, 12, t_Ledger, rfl, by decide, i_Ledger, rfl, t_Ledger_ok, n_Ledger, rfl, rfl, (Or.inl (gT_in 93 (by decide +kernel) rfl))⟩
theorem Fi_Machine_44 : fm_Fp "AllocationProfiler$Machine" 44 5 5 .int := ⟨R_Machine, T_Machine, 7, t_Machine, rfl, by decide, i_Machine, rfl, t_Machine_ok, n_Machine, rfl, rfl, (Or.inl (gT_in 250 (by decide +kernel) rfl))⟩
theorem Fi_Machine_48 : fm_Fp "AllocationProfiler$Machine" 48 5 6 .int := ⟨R_Machine, T_Machine, 7, t_Machine, rfl, by decide, i_Machine, rfl, t_Machine_ok, n_Machine, rfl, rfl, (Or.inl (gT_in 251 (by decide +kernel) rfl))⟩
theorem Fi_Method_30 : fm_Fp "AllocationProfiler$Method" 30 6 4 .boolean := ⟨R_Method, T_Method, 5, t_Method, rfl, by decide, i_Method, rfl, t_Method_ok, n_Method, rfl, rfl, (Or.inl (gT_in 177 (by decide +kernel) rfl))⟩
theorem Fi_Strand_17 : fm_Fp "AllocationProfiler$Strand" 17 7 2 .int := ⟨R_Strand, T_Strand, 5, t_Strand, rfl, by decide, i_Strand, rfl, t_Strand_ok, n_Strand, rfl, rfl, (Or.inl (gT_in 224 (by decide +kernel) rfl))⟩
theorem Fi_Strand_21 : fm_Fp "AllocationProfiler$Strand" 21 7 3 .int := ⟨R_Strand, T_Strand, 5, t_Strand, rfl, by decide, i_Strand, rfl, t_Strand_ok, n_Strand, rfl, rfl, (Or.inl (gT_in 226 (by decide +kernel) rfl))⟩
theorem Fi_Strand_24 : fm_Fp "AllocationProfiler$Strand" 24 7 4 .int := ⟨R_Strand, T_Strand, 5, t_Strand, rfl, by decide, i_Strand, rfl, t_Strand_ok, n_Strand, rfl, rfl, (Or.inl (gT_in 227 (by decide +kernel) rfl))⟩
theorem Fi_Types_15 : fm_Fp "AllocationProfiler$Types" 15 8 1 .int := ⟨R_Types, T_Types, 2, t_Types, rfl, by decide, i_Types, rfl, t_Types_ok, n_Types, rfl, rfl, (Or.inl (gT_in 42 (by decide +kernel) rfl))⟩
theorem Fi_Mo_25 : fm_Fp "AllocationProfilerModel" 25 10 10 .int := ⟨R_Mo, T_Mo, 48, t_Mo, rfl, by decide, i_Mo, rfl, t_Mo_ok, n_Mo, rfl, rfl, (Or.inl (gT_in 987 (by decide +kernel) rfl))⟩
theorem Ff_AP_12 : cn_Ff "AllocationProfiler" 12 9 0 (.object "AllocationProfiler$Machine") := ⟨R_AP, T_AP, 10, t_AP, rfl, by decide, i_AP, rfl, rfl, t_AP_ok, n_AP, rfl, rfl, (gT_in 285 (by decide +kernel) rfl)⟩
theorem Ff_AP_20 : cn_Ff "AllocationProfiler" 20 9 1 (.object "AllocationProfiler$Types") := ⟨R_AP, T_AP, 10, t_AP, rfl, by decide, i_AP, rfl, rfl, t_AP_ok, n_AP, rfl, rfl, (gT_in 286 (by decide +kernel) rfl)⟩
theorem Ff_AP_25 : cn_Ff "AllocationProfiler" 25 9 2 (.array (.object "AllocationProfiler$Method")) := ⟨R_AP, T_AP, 10, t_AP, rfl, by decide, i_AP, rfl, rfl, t_AP_ok, n_AP, rfl, rfl, (gT_in 287 (by decide +kernel) rfl)⟩
theorem Ff_AP_30 : cn_Ff "AllocationProfiler" 30 9 3 (.object "AllocationProfiler$Heap") := ⟨R_AP, T_AP, 10, t_AP, rfl, by decide, i_AP, rfl, rfl, t_AP_ok, n_AP, rfl, rfl, (gT_in 288 (by decide +kernel) rfl)⟩
theorem Ff_AP_35 : cn_Ff "AllocationProfiler" 35 9 4 (.object "AllocationProfiler$Ledger") := ⟨R_AP, T_AP, 10, t_AP, rfl, by decide, i_AP, rfl, rfl, t_AP_ok, n_AP, rfl, rfl, (gT_in 289 (by decide +kernel) rfl)⟩
theorem Ff_AP_41 : cn_Ff "AllocationProfiler" 41 9 5 (.object "AllocationProfiler$Code") := ⟨R_AP, T_AP, 10, t_AP, rfl, by decide, i_AP, rfl, rfl, t_AP_ok, n_AP, rfl, rfl, (gT_in 290 (by decide +kernel) rfl)⟩
theorem Ff_AP_48 : cn_Ff "AllocationProfiler" 48 9 6 (.object "AllocationProfiler$Checker") := ⟨R_AP, T_AP, 10, t_AP, rfl, by decide, i_AP, rfl, rfl, t_AP_ok, n_AP, rfl, rfl, (gT_in 291 (by decide +kernel) rfl)⟩
theorem Ff_Checker_9 : cn_Ff "AllocationProfiler$Checker" 9 0 0 (.array .int) := ⟨R_Checker, T_Checker, 3, t_Checker, rfl, by decide, i_Checker, rfl, rfl, t_Checker_ok, n_Checker, rfl, rfl, (gT_in 275 (by decide +kernel) rfl)⟩
theorem Ff_Checker_15 : cn_Ff "AllocationProfiler$Checker" 15 0 1 (.array .int) := ⟨R_Checker, T_Checker, 3, t_Checker, rfl, by decide, i_Checker, rfl, rfl, t_Checker_ok, n_Checker, rfl, rfl, (gT_in 276 (by decide +kernel) rfl)⟩
theorem Ff_Code_9 : cn_Ff "AllocationProfiler$Code" 9 1 2 (.array .int) := ⟨R_Code, T_Code, 7, t_Code, rfl, by decide, i_Code, rfl, rfl, t_Code_ok, n_Code, rfl, rfl, (gT_in 138 (by decide +kernel) rfl)⟩
theorem Ff_Code_15 : cn_Ff "AllocationProfiler$Code" 15 1 3 (.array .int) := ⟨R_Code, T_Code, 7, t_Code, rfl, by decide, i_Code, rfl, rfl, t_Code_ok, n_Code, rfl, rfl, (gT_in 141 (by decide +kernel) rfl)⟩
theorem Ff_Code_18 : cn_Ff "AllocationProfiler$Code" 18 1 4 (.array .int) := ⟨R_Code, T_Code, 7, t_Code, rfl, by decide, i_Code, rfl, rfl, t_Code_ok, n_Code, rfl, rfl, (gT_in 144 (by decide +kernel) rfl)⟩
theorem Ff_Code_28 : cn_Ff "AllocationProfiler$Code" 28 1 0 (.array .int) := ⟨R_Code, T_Code, 7, t_Code, rfl, by decide, i_Code, rfl, rfl, t_Code_ok, n_Code, rfl, rfl, (gT_in 134 (by decide +kernel) rfl)⟩
theorem Ff_Code_31 : cn_Ff "AllocationProfiler$Code" 31 1 1 (.array .int) := ⟨R_Code, T_Code, 7, t_Code, rfl, by decide, i_Code, rfl, rfl, t_Code_ok, n_Code, rfl, rfl, (gT_in 136 (by decide +kernel) rfl)⟩
theorem Ff_Frame_9 : cn_Ff "AllocationProfiler$Frame" 9 2 0 (.array .int) := ⟨R_Frame, T_Frame, 5, t_Frame, rfl, by decide, i_Frame, rfl, rfl, t_Frame_ok, n_Frame, rfl, rfl, (gT_in 202 (by decide +kernel) rfl)⟩
theorem Ff_Frame_15 : cn_Ff "AllocationProfiler$Frame" 15 2 1 (.array .int) := ⟨R_Frame, T_Frame, 5, t_Frame, rfl, by decide, i_Frame, rfl, rfl, t_Frame_ok, n_Frame, rfl, rfl, (gT_in 203 (by decide +kernel) rfl)⟩
theorem Ff_Heap_9 : cn_Ff "AllocationProfiler$Heap" 9 3 0 (.array .int) := ⟨R_Heap, T_Heap, 2, t_Heap, rfl, by decide, i_Heap, rfl, rfl, t_Heap_ok, n_Heap, rfl, rfl, (gT_in 57 (by decide +kernel) rfl)⟩
theorem Ff_Ledger_11 : cn_Ff "AllocationProfiler$Ledger" 11 4 0 (.array (.array .int)) := ⟨R_Ledger, T_Ledger, 12, t_Ledger, rfl, by decide, i_Ledger, rfl, rfl, t_Ledger_ok, n_Ledger, rfl, rfl, (gT_in 75 (by decide +kernel) rfl)⟩
theorem Ff_Ledger_18 : cn_Ff "AllocationProfiler$Ledger" 18 4 1 (.array (.array .long)) := ⟨R_Ledger, T_Ledger, 12, t_Ledger, rfl, by decide, i_Ledger, rfl, rfl, t_Ledger_ok, n_Ledger, rfl, rfl, (gT_in 76 (by decide +kernel) rfl)⟩
theorem Ff_Ledger_21 : cn_Ff "AllocationProfiler$Ledger" 21 4 2 (.array .long) := ⟨R_Ledger, T_Ledger, 12, t_Ledger, rfl, by decide, i_Ledger, rfl, rfl, t_Ledger_ok, n_Ledger, rfl, rfl, (gT_in 77 (by decide +kernel) rfl)⟩
theorem Ff_Ledger_25 : cn_Ff "AllocationProfiler$Ledger" 25 4 3 (.array .int) := ⟨R_Ledger, T_Ledger, 12, t_Ledger, rfl, by decide, i_Ledger, rfl, rfl, t_Ledger_ok, n_Ledger, rfl, rfl, (gT_in 78 (by decide +kernel) rfl)⟩
theorem Ff_Ledger_29 : cn_Ff "AllocationProfiler$Ledger" 29 4 4 (.array .float) := ⟨R_Ledger, T_Ledger, 12, t_Ledger, rfl, by decide, i_Ledger, rfl, rfl, t_Ledger_ok, n_Ledger, rfl, rfl, (gT_in 80 (by decide +kernel) rfl)⟩
theorem Ff_Ledger_33 : cn_Ff "AllocationProfiler$Ledger" 33 4 5 (.array .int) := ⟨R_Ledger, T_Ledger, 12, t_Ledger, rfl, by decide, i_Ledger, rfl, rfl, t_Ledger_ok, n_Ledger, rfl, rfl, (gT_in 82 (by decide +kernel) rfl)⟩
theorem Ff_Ledger_36 : cn_Ff "AllocationProfiler$Ledger" 36 4 6 (.array .int) := ⟨R_Ledger, T_Ledger, 12, t_Ledger, rfl, by decide, i_Ledger, rfl, rfl, t_Ledger_ok, n_Ledger, rfl, rfl, (gT_in 83 (by decide +kernel) rfl)⟩
theorem Ff_Ledger_39 : cn_Ff "AllocationProfiler$Ledger" 39 4 7 (.array .int) := ⟨R_Ledger, T_Ledger, 12, t_Ledger, rfl, by decide, i_Ledger, rfl, rfl, t_Ledger_ok, n_Ledger, rfl, rfl, (gT_in 85 (by decide +kernel) rfl)⟩
theorem Ff_Ledger_42 : cn_Ff "AllocationProfiler$Ledger" 42 4 8 (.array .int) := ⟨R_Ledger, T_Ledger, 12, t_Ledger, rfl, by decide, i_Ledger, rfl, rfl, t_Ledger_ok, n_Ledger, rfl, rfl, (gT_in 87 (by decide +kernel) rfl)⟩
theorem Ff_Machine_12 : cn_Ff "AllocationProfiler$Machine" 12 5 0 (.object "AllocationProfiler$Types") := ⟨R_Machine, T_Machine, 7, t_Machine, rfl, by decide, i_Machine, rfl, rfl, t_Machine_ok, n_Machine, rfl, rfl, (gT_in 240 (by decide +kernel) rfl)⟩
theorem Ff_Machine_20 : cn_Ff "AllocationProfiler$Machine" 20 5 1 (.array (.object "AllocationProfiler$Method")) := ⟨R_Machine, T_Machine, 7, t_Machine, rfl, by decide, i_Machine, rfl, rfl, t_Machine_ok, n_Machine, rfl, rfl, (gT_in 242 (by decide +kernel) rfl)⟩
theorem Ff_Machine_27 : cn_Ff "AllocationProfiler$Machine" 27 5 2 (.object "AllocationProfiler$Heap") := ⟨R_Machine, T_Machine, 7, t_Machine, rfl, by decide, i_Machine, rfl, rfl, t_Machine_ok, n_Machine, rfl, rfl, (gT_in 244 (by decide +kernel) rfl)⟩
theorem Ff_Machine_34 : cn_Ff "AllocationProfiler$Machine" 34 5 3 (.object "AllocationProfiler$Ledger") := ⟨R_Machine, T_Machine, 7, t_Machine, rfl, by decide, i_Machine, rfl, rfl, t_Machine_ok, n_Machine, rfl, rfl, (gT_in 246 (by decide +kernel) rfl)⟩
theorem Ff_Machine_40 : cn_Ff "AllocationProfiler$Machine" 40 5 4 (.array (.object "AllocationProfiler$Strand")) := ⟨R_Machine, T_Machine, 7, t_Machine, rfl, by decide, i_Machine, rfl, rfl, t_Machine_ok, n_Machine, rfl, rfl, (gT_in 248 (by decide +kernel) rfl)⟩
theorem Ff_Method_14 : cn_Ff "AllocationProfiler$Method" 14 6 0 (.object "AllocationProfiler$Code") := ⟨R_Method, T_Method, 5, t_Method, rfl, by decide, i_Method, rfl, rfl, t_Method_ok, n_Method, rfl, rfl, (gT_in 169 (by decide +kernel) rfl)⟩
theorem Ff_Method_20 : cn_Ff "AllocationProfiler$Method" 20 6 1 (.object "AllocationProfiler$Code") := ⟨R_Method, T_Method, 5, t_Method, rfl, by decide, i_Method, rfl, rfl, t_Method_ok, n_Method, rfl, rfl, (gT_in 171 (by decide +kernel) rfl)⟩
theorem Ff_Method_23 : cn_Ff "AllocationProfiler$Method" 23 6 2 (.array .int) := ⟨R_Method, T_Method, 5, t_Method, rfl, by decide, i_Method, rfl, rfl, t_Method_ok, n_Method, rfl, rfl, (gT_in 174 (by decide +kernel) rfl)⟩
theorem Ff_Method_27 : cn_Ff "AllocationProfiler$Method" 27 6 3 (.array .int) := ⟨R_Method, T_Method, 5, t_Method, rfl, by decide, i_Method, rfl, rfl, t_Method_ok, n_Method, rfl, rfl, (gT_in 176 (by decide +kernel) rfl)⟩
theorem Ff_Strand_11 : cn_Ff "AllocationProfiler$Strand" 11 7 0 (.array (.object "AllocationProfiler$Frame")) := ⟨R_Strand, T_Strand, 5, t_Strand, rfl, by decide, i_Strand, rfl, rfl, t_Strand_ok, n_Strand, rfl, rfl, (gT_in 221 (by decide +kernel) rfl)⟩
theorem Ff_Strand_27 : cn_Ff "AllocationProfiler$Strand" 27 7 1 (.int) := ⟨R_Strand, T_Strand, 5, t_Strand, rfl, by decide, i_Strand, rfl, rfl, t_Strand_ok, n_Strand, rfl, rfl, (gT_in 222 (by decide +kernel) rfl)⟩
theorem Ff_Types_9 : cn_Ff "AllocationProfiler$Types" 9 8 0 (.array .int) := ⟨R_Types, T_Types, 2, t_Types, rfl, by decide, i_Types, rfl, rfl, t_Types_ok, n_Types, rfl, rfl, (gT_in 41 (by decide +kernel) rfl)⟩
theorem Ff_Mo_7 : cn_Ff "AllocationProfilerModel" 7 10 2 (.array .int) := ⟨R_Mo, T_Mo, 48, t_Mo, rfl, by decide, i_Mo, rfl, rfl, t_Mo_ok, n_Mo, rfl, rfl, (gT_in 979 (by decide +kernel) rfl)⟩
theorem Ff_Mo_13 : cn_Ff "AllocationProfilerModel" 13 10 3 (.array .int) := ⟨R_Mo, T_Mo, 48, t_Mo, rfl, by decide, i_Mo, rfl, rfl, t_Mo_ok, n_Mo, rfl, rfl, (gT_in 980 (by decide +kernel) rfl)⟩
theorem Ff_Mo_16 : cn_Ff "AllocationProfilerModel" 16 10 5 (.array .int) := ⟨R_Mo, T_Mo, 48, t_Mo, rfl, by decide, i_Mo, rfl, rfl, t_Mo_ok, n_Mo, rfl, rfl, (gT_in 982 (by decide +kernel) rfl)⟩
theorem Ff_Mo_19 : cn_Ff "AllocationProfilerModel" 19 10 6 (.array .int) := ⟨R_Mo, T_Mo, 48, t_Mo, rfl, by decide, i_Mo, rfl, rfl, t_Mo_ok, n_Mo, rfl, rfl, (gT_in 983 (by decide +kernel) rfl)⟩
theorem Ff_Mo_22 : cn_Ff "AllocationProfilerModel" 22 10 8 (.array .int) := ⟨R_Mo, T_Mo, 48, t_Mo, rfl, by decide, i_Mo, rfl, rfl, t_Mo_ok, n_Mo, rfl, rfl, (gT_in 985 (by decide +kernel) rfl)⟩
theorem Ff_Mo_29 : cn_Ff "AllocationProfilerModel" 29 10 12 (.array .boolean) := ⟨R_Mo, T_Mo, 48, t_Mo, rfl, by decide, i_Mo, rfl, rfl, t_Mo_ok, n_Mo, rfl, rfl, (gT_in 989 (by decide +kernel) rfl)⟩
theorem Ff_Mo_33 : cn_Ff "AllocationProfilerModel" 33 10 13 (.array .int) := ⟨R_Mo, T_Mo, 48, t_Mo, rfl, by decide, i_Mo, rfl, rfl, t_Mo_ok, n_Mo, rfl, rfl, (gT_in 990 (by decide +kernel) rfl)⟩
theorem Ff_Mo_36 : cn_Ff "AllocationProfilerModel" 36 10 14 (.array .int) := ⟨R_Mo, T_Mo, 48, t_Mo, rfl, by decide, i_Mo, rfl, rfl, t_Mo_ok, n_Mo, rfl, rfl, (gT_in 991 (by decide +kernel) rfl)⟩
theorem Ff_Mo_39 : cn_Ff "AllocationProfilerModel" 39 10 15 (.array .int) := ⟨R_Mo, T_Mo, 48, t_Mo, rfl, by decide, i_Mo, rfl, rfl, t_Mo_ok, n_Mo, rfl, rfl, (gT_in 992 (by decide +kernel) rfl)⟩
theorem Ff_Mo_42 : cn_Ff "AllocationProfilerModel" 42 10 16 (.array .int) := ⟨R_Mo, T_Mo, 48, t_Mo, rfl, by decide, i_Mo, rfl, rfl, t_Mo_ok, n_Mo, rfl, rfl, (gT_in 993 (by decide +kernel) rfl)⟩
theorem Ff_Mo_45 : cn_Ff "AllocationProfilerModel" 45 10 17 (.array .int) := ⟨R_Mo, T_Mo, 48, t_Mo, rfl, by decide, i_Mo, rfl, rfl, t_Mo_ok, n_Mo, rfl, rfl, (gT_in 994 (by decide +kernel) rfl)⟩
theorem Ff_Mo_48 : cn_Ff "AllocationProfilerModel" 48 10 18 (.array .int) := ⟨R_Mo, T_Mo, 48, t_Mo, rfl, by decide, i_Mo, rfl, rfl, t_Mo_ok, n_Mo, rfl, rfl, (gT_in 995 (by decide +kernel) rfl)⟩
theorem Ff_Mo_51 : cn_Ff "AllocationProfilerModel" 51 10 19 (.array .int) := ⟨R_Mo, T_Mo, 48, t_Mo, rfl, by decide, i_Mo, rfl, rfl, t_Mo_ok, n_Mo, rfl, rfl, (gT_in 996 (by decide +kernel) rfl)⟩
theorem Ff_Mo_54 : cn_Ff "AllocationProfilerModel" 54 10 20 (.array .int) := ⟨R_Mo, T_Mo, 48, t_Mo, rfl, by decide, i_Mo, rfl, rfl, t_Mo_ok, n_Mo, rfl, rfl, (gT_in 997 (by decide +kernel) rfl)⟩
theorem Ff_Mo_57 : cn_Ff "AllocationProfilerModel" 57 10 21 (.array .int) := ⟨R_Mo, T_Mo, 48, t_Mo, rfl, by decide, i_Mo, rfl, rfl, t_Mo_ok, n_Mo, rfl, rfl, (gT_in 998 (by decide +kernel) rfl)⟩
theorem Ff_Mo_60 : cn_Ff "AllocationProfilerModel" 60 10 22 (.array .int) := ⟨R_Mo, T_Mo, 48, t_Mo, rfl, by decide, i_Mo, rfl, rfl, t_Mo_ok, n_Mo, rfl, rfl, (gT_in 999 (by decide +kernel) rfl)⟩
theorem Ff_Mo_63 : cn_Ff "AllocationProfilerModel" 63 10 24 (.array .boolean) := ⟨R_Mo, T_Mo, 48, t_Mo, rfl, by decide, i_Mo, rfl, rfl, t_Mo_ok, n_Mo, rfl, rfl, (gT_in 1001 (by decide +kernel) rfl)⟩
theorem Ff_Mo_66 : cn_Ff "AllocationProfilerModel" 66 10 25 (.array .int) := ⟨R_Mo, T_Mo, 48, t_Mo, rfl, by decide, i_Mo, rfl, rfl, t_Mo_ok, n_Mo, rfl, rfl, (gT_in 1002 (by decide +kernel) rfl)⟩
theorem Ff_Mo_69 : cn_Ff "AllocationProfilerModel" 69 10 26 (.array .int) := ⟨R_Mo, T_Mo, 48, t_Mo, rfl, by decide, i_Mo, rfl, rfl, t_Mo_ok, n_Mo, rfl, rfl, (gT_in 1003 (by decide +kernel) rfl)⟩
theorem Ff_Mo_72 : cn_Ff "AllocationProfilerModel" 72 10 27 (.array .int) := ⟨R_Mo, T_Mo, 48, t_Mo, rfl, by decide, i_Mo, rfl, rfl, t_Mo_ok, n_Mo, rfl, rfl, (gT_in 1004 (by decide +kernel) rfl)⟩
theorem Ff_Mo_75 : cn_Ff "AllocationProfilerModel" 75 10 28 (.array .int) := ⟨R_Mo, T_Mo, 48, t_Mo, rfl, by decide, i_Mo, rfl, rfl, t_Mo_ok, n_Mo, rfl, rfl, (gT_in 1005 (by decide +kernel) rfl)⟩
theorem Ff_Mo_78 : cn_Ff "AllocationProfilerModel" 78 10 29 (.array .int) := ⟨R_Mo, T_Mo, 48, t_Mo, rfl, by decide, i_Mo, rfl, rfl, t_Mo_ok, n_Mo, rfl, rfl, (gT_in 1006 (by decide +kernel) rfl)⟩
theorem Ff_Mo_81 : cn_Ff "AllocationProfilerModel" 81 10 30 (.array .int) := ⟨R_Mo, T_Mo, 48, t_Mo, rfl, by decide, i_Mo, rfl, rfl, t_Mo_ok, n_Mo, rfl, rfl, (gT_in 1007 (by decide +kernel) rfl)⟩
theorem Ff_Mo_84 : cn_Ff "AllocationProfilerModel" 84 10 31 (.array .int) := ⟨R_Mo, T_Mo, 48, t_Mo, rfl, by decide, i_Mo, rfl, rfl, t_Mo_ok, n_Mo, rfl, rfl, (gT_in 1008 (by decide +kernel) rfl)⟩
theorem Ff_Mo_87 : cn_Ff "AllocationProfilerModel" 87 10 32 (.array .int) := ⟨R_Mo, T_Mo, 48, t_Mo, rfl, by decide, i_Mo, rfl, rfl, t_Mo_ok, n_Mo, rfl, rfl, (gT_in 1009 (by decide +kernel) rfl)⟩
theorem Ff_Mo_90 : cn_Ff "AllocationProfilerModel" 90 10 36 (.array .int) := ⟨R_Mo, T_Mo, 48, t_Mo, rfl, by decide, i_Mo, rfl, rfl, t_Mo_ok, n_Mo, rfl, rfl, (gT_in 1013 (by decide +kernel) rfl)⟩
theorem Ff_Mo_93 : cn_Ff "AllocationProfilerModel" 93 10 37 (.array .long) := ⟨R_Mo, T_Mo, 48, t_Mo, rfl, by decide, i_Mo, rfl, rfl, t_Mo_ok, n_Mo, rfl, rfl, (gT_in 1014 (by decide +kernel) rfl)⟩
theorem Ff_Mo_97 : cn_Ff "AllocationProfilerModel" 97 10 38 (.array .long) := ⟨R_Mo, T_Mo, 48, t_Mo, rfl, by decide, i_Mo, rfl, rfl, t_Mo_ok, n_Mo, rfl, rfl, (gT_in 1015 (by decide +kernel) rfl)⟩
theorem Ff_Mo_100 : cn_Ff "AllocationProfilerModel" 100 10 39 (.array .int) := ⟨R_Mo, T_Mo, 48, t_Mo, rfl, by decide, i_Mo, rfl, rfl, t_Mo_ok, n_Mo, rfl, rfl, (gT_in 1016 (by decide +kernel) rfl)⟩
theorem Ff_Mo_103 : cn_Ff "AllocationProfilerModel" 103 10 40 (.array .float) := ⟨R_Mo, T_Mo, 48, t_Mo, rfl, by decide, i_Mo, rfl, rfl, t_Mo_ok, n_Mo, rfl, rfl, (gT_in 1017 (by decide +kernel) rfl)⟩
theorem Ff_Mo_107 : cn_Ff "AllocationProfilerModel" 107 10 41 (.array .long) := ⟨R_Mo, T_Mo, 48, t_Mo, rfl, by decide, i_Mo, rfl, rfl, t_Mo_ok, n_Mo, rfl, rfl, (gT_in 1018 (by decide +kernel) rfl)⟩
theorem Ff_Mo_110 : cn_Ff "AllocationProfilerModel" 110 10 43 (.array .int) := ⟨R_Mo, T_Mo, 48, t_Mo, rfl, by decide, i_Mo, rfl, rfl, t_Mo_ok, n_Mo, rfl, rfl, (gT_in 1020 (by decide +kernel) rfl)⟩
theorem Ff_Mo_113 : cn_Ff "AllocationProfilerModel" 113 10 45 (.array .int) := ⟨R_Mo, T_Mo, 48, t_Mo, rfl, by decide, i_Mo, rfl, rfl, t_Mo_ok, n_Mo, rfl, rfl, (gT_in 1022 (by decide +kernel) rfl)⟩
theorem Ff_Mo_116 : cn_Ff "AllocationProfilerModel" 116 10 46 (.array .int) := ⟨R_Mo, T_Mo, 48, t_Mo, rfl, by decide, i_Mo, rfl, rfl, t_Mo_ok, n_Mo, rfl, rfl, (gT_in 1023 (by decide +kernel) rfl)⟩
theorem Ff_Mo_119 : cn_Ff "AllocationProfilerModel" 119 10 47 (.array .int) := ⟨R_Mo, T_Mo, 48, t_Mo, rfl, by decide, i_Mo, rfl, rfl, t_Mo_ok, n_Mo, rfl, rfl, (gT_in 1024 (by decide +kernel) rfl)⟩
theorem LI_AP_11 : cn_LI "AllocationProfiler" 11 y_Machine_init b_Machine_init 2 0 := ⟨⟨(gT_in 2 (by decide +kernel) rfl), (Or.inl (gT_in 31 (by decide +kernel) rfl)), (gT_in 32 (by decide +kernel) rfl), rfl, (gT_in 33 (by decide +kernel) rfl)⟩, by decide +kernel⟩
theorem LI_AP_38 : cn_LI "AllocationProfiler" 38 y_Code_init b_Code_init 2 1 := ⟨⟨(gT_in 7 (by decide +kernel) rfl), (Or.inl (gT_in 268 (by decide +kernel) rfl)), (gT_in 131 (by decide +kernel) rfl), rfl, (gT_in 132 (by decide +kernel) rfl)⟩, by decide +kernel⟩
theorem LI_AP_47 : cn_LI "AllocationProfiler" 47 y_Checker_init b_Checker_init 1 0 := ⟨⟨(gT_in 10 (by decide +kernel) rfl), (Or.inr ⟨"AllocationProfiler", (nW_in 271 (by decide +kernel) rfl)⟩), (gT_in 272 (by decide +kernel) rfl), rfl, (gT_in 273 (by decide +kernel) rfl)⟩, by decide +kernel⟩
theorem LI_Machine_11 : cn_LI "AllocationProfiler$Machine" 11 y_Types_init b_Types_init 1 0 := ⟨⟨(gT_in 3 (by decide +kernel) rfl), (Or.inr ⟨"AllocationProfiler", (nW_in 37 (by decide +kernel) rfl)⟩), (gT_in 38 (by decide +kernel) rfl), rfl, (gT_in 39 (by decide +kernel) rfl)⟩, by decide +kernel⟩
theorem LI_Machine_26 : cn_LI "AllocationProfiler$Machine" 26 y_Heap_init b_Heap_init 1 0 := ⟨⟨(gT_in 4 (by decide +kernel) rfl), (Or.inr ⟨"AllocationProfiler", (nW_in 53 (by decide +kernel) rfl)⟩), (gT_in 54 (by decide +kernel) rfl), rfl, (gT_in 55 (by decide +kernel) rfl)⟩, by decide +kernel⟩
theorem LI_Machine_33 : cn_LI "AllocationProfiler$Machine" 33 y_Ledger_init b_Ledger_init 1 0 := ⟨⟨(gT_in 5 (by decide +kernel) rfl), (Or.inr ⟨"AllocationProfiler", (nW_in 67 (by decide +kernel) rfl)⟩), (gT_in 68 (by decide +kernel) rfl), rfl, (gT_in 69 (by decide +kernel) rfl)⟩, by decide +kernel⟩
theorem LI_Machine_51 : cn_LI "AllocationProfiler$Machine" 51 y_Method_init b_Method_init 1 0 := ⟨⟨(gT_in 6 (by decide +kernel) rfl), (Or.inr ⟨"AllocationProfiler", (nW_in 124 (by decide +kernel) rfl)⟩), (gT_in 125 (by decide +kernel) rfl), rfl, (gT_in 126 (by decide +kernel) rfl)⟩, by decide +kernel⟩
theorem LI_Machine_52 : cn_LI "AllocationProfiler$Machine" 52 y_Strand_init b_Strand_init 3 1 := ⟨⟨(gT_in 8 (by decide +kernel) rfl), (Or.inl (gT_in 191 (by decide +kernel) rfl)), (gT_in 192 (by decide +kernel) rfl), rfl, (gT_in 193 (by decide +kernel) rfl)⟩, by decide +kernel⟩
theorem LI_Method_11 : cn_LI "AllocationProfiler$Method" 11 y_Code_init b_Code_init 2 1 := ⟨⟨(gT_in 7 (by decide +kernel) rfl), (Or.inl (gT_in 130 (by decide +kernel) rfl)), (gT_in 131 (by decide +kernel) rfl), rfl, (gT_in 132 (by decide +kernel) rfl)⟩, by decide +kernel⟩
theorem LI_Strand_30 : cn_LI "AllocationProfiler$Strand" 30 y_Frame_init b_Frame_init 1 0 := ⟨⟨(gT_in 9 (by decide +kernel) rfl), (Or.inr ⟨"AllocationProfiler", (nW_in 198 (by decide +kernel) rfl)⟩), (gT_in 199 (by decide +kernel) rfl), rfl, (gT_in 200 (by decide +kernel) rfl)⟩, by decide +kernel⟩
theorem LI_Law_92 : cn_LI "AllocationProfilerLaw" 92 y_AP_init b_AP_init 1 0 := ⟨⟨(gT_in 1 (by decide +kernel) rfl), (Or.inl (gT_in 23 (by decide +kernel) rfl)), (gT_in 24 (by decide +kernel) rfl), rfl, (gT_in 25 (by decide +kernel) rfl)⟩, by decide +kernel⟩
theorem LI_Law_95 : cn_LI "AllocationProfilerLaw" 95 y_Mo_init b_Mo_init 1 0 := ⟨⟨(gT_in 11 (by decide +kernel) rfl), (Or.inl (gT_in 973 (by decide +kernel) rfl)), (gT_in 974 (by decide +kernel) rfl), rfl, (gT_in 975 (by decide +kernel) rfl)⟩, by decide +kernel⟩
theorem d_Frame_init_0 : decode b_Frame_init 0 = .ok (.aload_n 0, 1) := by decide +kernel
theorem d_Frame_init_1 : decode b_Frame_init 1 = .ok (.invokespecial 3, 3) := by decide +kernel
theorem d_Frame_init_4 : decode b_Frame_init 4 = .ok (.aload_n 0, 1) := by decide +kernel
theorem d_Frame_init_5 : decode b_Frame_init 5 = .ok (.iconst 4, 1) := by decide +kernel
theorem d_Frame_init_6 : decode b_Frame_init 6 = .ok (.newarray .int, 2) := by decide +kernel
theorem d_Frame_init_8 : decode b_Frame_init 8 = .ok (.putfield 9, 3) := by decide +kernel
theorem d_Frame_init_11 : decode b_Frame_init 11 = .ok (.aload_n 0, 1) := by decide +kernel
theorem d_Frame_init_12 : decode b_Frame_init 12 = .ok (.iconst 5, 1) := by decide +kernel
theorem d_Frame_init_13 : decode b_Frame_init 13 = .ok (.newarray .int, 2) := by decide +kernel
theorem d_Frame_init_15 : decode b_Frame_init 15 = .ok (.putfield 15, 3) := by decide +kernel
theorem d_Frame_init_18 : decode b_Frame_init 18 = .ok (.aload_n 0, 1) := by decide +kernel
theorem d_Frame_init_19 : decode b_Frame_init 19 = .ok (.iconst 0, 1) := by decide +kernel
theorem d_Frame_init_20 : decode b_Frame_init 20 = .ok (.putfield 18, 3) := by decide +kernel
theorem d_Frame_init_23 : decode b_Frame_init 23 = .ok (.aload_n 0, 1) := by decide +kernel
theorem d_Frame_init_24 : decode b_Frame_init 24 = .ok (.iconst 0, 1) := by decide +kernel
theorem d_Frame_init_25 : decode b_Frame_init 25 = .ok (.putfield 22, 3) := by decide +kernel
theorem d_Frame_init_28 : decode b_Frame_init 28 = .ok (.aload_n 0, 1) := by decide +kernel
theorem d_Frame_init_29 : decode b_Frame_init 29 = .ok (.iconst 0, 1) := by decide +kernel
theorem d_Frame_init_30 : decode b_Frame_init 30 = .ok (.putfield 25, 3) := by decide +kernel
theorem d_Frame_init_33 : decode b_Frame_init 33 = .ok (.return_, 1) := by decide +kernel
def rm_Frame_init : Room := { frames := 1, cells := 2, slots := 9, locals := 12 }
def m_Frame_init (q : Nat) (T : cn_T) : Option cn_T :=
  (cn_pf q 2 0 T.1.length (cn_ad T (.inl (.int, 4)))).bind fun T1 =>
  (cn_pf q 2 1 T1.1.length (cn_ad T1 (.inl (.int, 5)))).bind fun T3 =>
  (cn_pi q 2 2 0 T3).bind fun T5 =>
  (cn_pi q 2 3 0 T5).bind fun T7 =>
  (cn_pi q 2 4 0 T7).bind fun T9 =>
  some T9
set_option maxHeartbeats 4000000 in
set_option maxRecDepth 100000 in
theorem cc_Frame_init (l : Launch) (G : fm_G) (q : Nat) {T T' : cn_T} (h : m_Frame_init q T = some T') : cMet l y_Frame_init b_Frame_init 1 rm_Frame_init G T [.ref (G.2.2 + q)] T' 2 9 := by
  refine cn_met (own := "AllocationProfiler$Frame") (by decide) rfl rfl (Nat.le_of_ble_eq_true rfl) (fun p e s m args below meth c C0 hnm h0 hK ls hl => ?_)
  have hx := C0.1.1
  have hb := C0.1.2.1
  have hl : lv_has ls 1 [(0, .ref (G.2.2 + q))] := hl
  unfold m_Frame_init at h
  refine lv_aload_n hx hb d_Frame_init_0 rfl (lv_at hl 0 rfl) ?_
  refine cn_obj C0 (gT_in 201 (by decide +kernel) rfl) oI oC hl.1 ⟨Nat.le_of_ble_eq_true rfl, Nat.le_of_ble_eq_true rfl⟩ d_Frame_init_1 ?_
  refine lv_aload_n hx hb d_Frame_init_4 rfl (lv_at hl 0 rfl) ?_
  refine lv_iconst (v := 4) hx hb d_Frame_init_5 (by decide) ?_
  refine cn_prim C0 (ty := .int) rfl (by decide) aC_int hK (N0 := 4) (by decide) (by decide) (by decide) ⟨Nat.le_of_ble_eq_true rfl, Nat.le_of_ble_eq_true rfl⟩ d_Frame_init_6 (fun H hK => ?_)
  obtain ⟨T1, e2, h⟩ := ob h
  refine cn_putr C0 hnm Ff_Frame_9 rfl hK e2 d_Frame_init_8 (fun H locs hK => ?_)
  refine lv_aload_n hx hb d_Frame_init_11 rfl (lv_at hl 0 rfl) ?_
  refine lv_iconst (v := 5) hx hb d_Frame_init_12 (by decide) ?_
  refine cn_prim C0 (ty := .int) rfl (by decide) aC_int hK (N0 := 5) (by decide) (by decide) (by decide) ⟨Nat.le_of_ble_eq_true rfl, Nat.le_of_ble_eq_true rfl⟩ d_Frame_init_13 (fun H hK => ?_)
  obtain ⟨T3, e4, h⟩ := ob h
  refine cn_putr C0 hnm Ff_Frame_15 rfl hK e4 d_Frame_init_15 (fun H locs hK => ?_)
  refine lv_aload_n hx hb d_Frame_init_18 rfl (lv_at hl 0 rfl) ?_
  refine lv_iconst (v := 0) hx hb d_Frame_init_19 (by decide) ?_
  obtain ⟨T5, e6, h⟩ := ob h
  refine cn_puti C0 Fi_Frame_18 rfl rfl hK e6 d_Frame_init_20 (fun H locs hK => ?_)
  refine lv_aload_n hx hb d_Frame_init_23 rfl (lv_at hl 0 rfl) ?_
  refine lv_iconst (v := 0) hx hb d_Frame_init_24 (by decide) ?_
  obtain ⟨T7, e8, h⟩ := ob h
  refine cn_puti C0 Fi_Frame_22 rfl rfl hK e8 d_Frame_init_25 (fun H locs hK => ?_)
  refine lv_aload_n hx hb d_Frame_init_28 rfl (lv_at hl 0 rfl) ?_
  refine lv_iconst (v := 0) hx hb d_Frame_init_29 (by decide) ?_
  obtain ⟨T9, e10, h⟩ := ob h
  refine cn_puti C0 Fi_Frame_25 rfl rfl hK e10 d_Frame_init_30 (fun H locs hK => ?_)
  cases h
  exact cn_ret C0 h0 hK d_Frame_init_33
theorem d_Types_init_0 : decode b_Types_init 0 = .ok (.aload_n 0, 1) := by decide +kernel
theorem d_Types_init_1 : decode b_Types_init 1 = .ok (.invokespecial 3, 3) := by decide +kernel
theorem d_Types_init_4 : decode b_Types_init 4 = .ok (.aload_n 0, 1) := by decide +kernel
theorem d_Types_init_5 : decode b_Types_init 5 = .ok (.bipush 6, 2) := by decide +kernel
theorem d_Types_init_7 : decode b_Types_init 7 = .ok (.newarray .int, 2) := by decide +kernel
theorem d_Types_init_9 : decode b_Types_init 9 = .ok (.putfield 9, 3) := by decide +kernel
theorem d_Types_init_12 : decode b_Types_init 12 = .ok (.aload_n 0, 1) := by decide +kernel
theorem d_Types_init_13 : decode b_Types_init 13 = .ok (.iconst 0, 1) := by decide +kernel
theorem d_Types_init_14 : decode b_Types_init 14 = .ok (.putfield 15, 3) := by decide +kernel
theorem d_Types_init_17 : decode b_Types_init 17 = .ok (.return_, 1) := by decide +kernel
def rm_Types_init : Room := { frames := 1, cells := 1, slots := 6, locals := 12 }
def m_Types_init (q : Nat) (T : cn_T) : Option cn_T :=
  (cn_pf q 8 0 T.1.length (cn_ad T (.inl (.int, 6)))).bind fun T1 =>
  (cn_pi q 8 1 0 T1).bind fun T3 =>
  some T3
set_option maxHeartbeats 4000000 in
set_option maxRecDepth 100000 in
theorem cc_Types_init (l : Launch) (G : fm_G) (q : Nat) {T T' : cn_T} (h : m_Types_init q T = some T') : cMet l y_Types_init b_Types_init 1 rm_Types_init G T [.ref (G.2.2 + q)] T' 1 6 := by
  refine cn_met (own := "AllocationProfiler$Types") (by decide) rfl rfl (Nat.le_of_ble_eq_true rfl) (fun p e s m args below meth c C0 hnm h0 hK ls hl => ?_)
  have hx := C0.1.1
  have hb := C0.1.2.1
  have hl : lv_has ls 1 [(0, .ref (G.2.2 + q))] := hl
  unfold m_Types_init at h
  refine lv_aload_n hx hb d_Types_init_0 rfl (lv_at hl 0 rfl) ?_
  refine cn_obj C0 (gT_in 40 (by decide +kernel) rfl) oI oC hl.1 ⟨Nat.le_of_ble_eq_true rfl, Nat.le_of_ble_eq_true rfl⟩ d_Types_init_1 ?_
  refine lv_aload_n hx hb d_Types_init_4 rfl (lv_at hl 0 rfl) ?_
  refine lv_bipush (v := 6) hx hb d_Types_init_5 (by decide) ?_
  refine cn_prim C0 (ty := .int) rfl (by decide) aC_int hK (N0 := 6) (by decide) (by decide) (by decide) ⟨Nat.le_of_ble_eq_true rfl, Nat.le_of_ble_eq_true rfl⟩ d_Types_init_7 (fun H hK => ?_)
  obtain ⟨T1, e2, h⟩ := ob h
  refine cn_putr C0 hnm Ff_Types_9 rfl hK e2 d_Types_init_9 (fun H locs hK => ?_)
  refine lv_aload_n hx hb d_Types_init_12 rfl (lv_at hl 0 rfl) ?_
  refine lv_iconst (v := 0) hx hb d_Types_init_13 (by decide) ?_
  obtain ⟨T3, e4, h⟩ := ob h
  refine cn_puti C0 Fi_Types_15 rfl rfl hK e4 d_Types_init_14 (fun H locs hK => ?_)
  cases h
  exact cn_ret C0 h0 hK d_Types_init_17
theorem d_Heap_init_0 : decode b_Heap_init 0 = .ok (.aload_n 0, 1) := by decide +kernel
theorem d_Heap_init_1 : decode b_Heap_init 1 = .ok (.invokespecial 3, 3) := by decide +kernel
theorem d_Heap_init_4 : decode b_Heap_init 4 = .ok (.aload_n 0, 1) := by decide +kernel
theorem d_Heap_init_5 : decode b_Heap_init 5 = .ok (.sipush 400, 3) := by decide +kernel
theorem d_Heap_init_8 : decode b_Heap_init 8 = .ok (.newarray .int, 2) := by decide +kernel
theorem d_Heap_init_10 : decode b_Heap_init 10 = .ok (.putfield 9, 3) := by decide +kernel
theorem d_Heap_init_13 : decode b_Heap_init 13 = .ok (.aload_n 0, 1) := by decide +kernel
theorem d_Heap_init_14 : decode b_Heap_init 14 = .ok (.iconst 0, 1) := by decide +kernel
theorem d_Heap_init_15 : decode b_Heap_init 15 = .ok (.putfield 15, 3) := by decide +kernel
theorem d_Heap_init_18 : decode b_Heap_init 18 = .ok (.return_, 1) := by decide +kernel
def rm_Heap_init : Room := { frames := 1, cells := 1, slots := 400, locals := 12 }
def m_Heap_init (q : Nat) (T : cn_T) : Option cn_T :=
  (cn_pf q 3 0 T.1.length (cn_ad T (.inl (.int, 400)))).bind fun T1 =>
  (cn_pi q 3 1 0 T1).bind fun T3 =>
  some T3
set_option maxHeartbeats 4000000 in
set_option maxRecDepth 100000 in
theorem cc_Heap_init (l : Launch) (G : fm_G) (q : Nat) {T T' : cn_T} (h : m_Heap_init q T = some T') : cMet l y_Heap_init b_Heap_init 1 rm_Heap_init G T [.ref (G.2.2 + q)] T' 1 400 := by
  refine cn_met (own := "AllocationProfiler$Heap") (by decide) rfl rfl (Nat.le_of_ble_eq_true rfl) (fun p e s m args below meth c C0 hnm h0 hK ls hl => ?_)
  have hx := C0.1.1
  have hb := C0.1.2.1
  have hl : lv_has ls 1 [(0, .ref (G.2.2 + q))] := hl
  unfold m_Heap_init at h
  refine lv_aload_n hx hb d_Heap_init_0 rfl (lv_at hl 0 rfl) ?_
  refine cn_obj C0 (gT_in 56 (by decide +kernel) rfl) oI oC hl.1 ⟨Nat.le_of_ble_eq_true rfl, Nat.le_of_ble_eq_true rfl⟩ d_Heap_init_1 ?_
  refine lv_aload_n hx hb d_Heap_init_4 rfl (lv_at hl 0 rfl) ?_
  refine lv_sipush (v := 400) hx hb d_Heap_init_5 (by decide) ?_
  refine cn_prim C0 (ty := .int) rfl (by decide) aC_int hK (N0 := 400) (by decide) (by decide) (by decide) ⟨Nat.le_of_ble_eq_true rfl, Nat.le_of_ble_eq_true rfl⟩ d_Heap_init_8 (fun H hK => ?_)
  obtain ⟨T1, e2, h⟩ := ob h
  refine cn_putr C0 hnm Ff_Heap_9 rfl hK e2 d_Heap_init_10 (fun H locs hK => ?_)
  refine lv_aload_n hx hb d_Heap_init_13 rfl (lv_at hl 0 rfl) ?_
  refine lv_iconst (v := 0) hx hb d_Heap_init_14 (by decide) ?_
  obtain ⟨T3, e4, h⟩ := ob h
  refine cn_puti C0 Fi_Heap_15 rfl rfl hK e4 d_Heap_init_15 (fun H locs hK => ?_)
  cases h
  exact cn_ret C0 h0 hK d_Heap_init_18
theorem d_Ledger_init_0 : decode b_Ledger_init 0 = .ok (.aload_n 0, 1) := by decide +kernel
theorem d_Ledger_init_1 : decode b_Ledger_init 1 = .ok (.invokespecial 3, 3) := by decide +kernel
theorem d_Ledger_init_4 : decode b_Ledger_init 4 = .ok (.aload_n 0, 1) := by decide +kernel
theorem d_Ledger_init_5 : decode b_Ledger_init 5 = .ok (.iconst 3, 1) := by decide +kernel
theorem d_Ledger_init_6 : decode b_Ledger_init 6 = .ok (.bipush 78, 2) := by decide +kernel
theorem d_Ledger_init_8 : decode b_Ledger_init 8 = .ok (.multianewarray 9 2, 4) := by decide +kernel
theorem d_Ledger_init_12 : decode b_Ledger_init 12 = .ok (.putfield 11, 3) := by decide +kernel
theorem d_Ledger_init_15 : decode b_Ledger_init 15 = .ok (.aload_n 0, 1) := by decide +kernel
theorem d_Ledger_init_16 : decode b_Ledger_init 16 = .ok (.iconst 3, 1) := by decide +kernel
theorem d_Ledger_init_17 : decode b_Ledger_init 17 = .ok (.bipush 78, 2) := by decide +kernel
theorem d_Ledger_init_19 : decode b_Ledger_init 19 = .ok (.multianewarray 16 2, 4) := by decide +kernel
theorem d_Ledger_init_23 : decode b_Ledger_init 23 = .ok (.putfield 18, 3) := by decide +kernel
theorem d_Ledger_init_26 : decode b_Ledger_init 26 = .ok (.aload_n 0, 1) := by decide +kernel
theorem d_Ledger_init_27 : decode b_Ledger_init 27 = .ok (.bipush 78, 2) := by decide +kernel
theorem d_Ledger_init_29 : decode b_Ledger_init 29 = .ok (.newarray .long, 2) := by decide +kernel
theorem d_Ledger_init_31 : decode b_Ledger_init 31 = .ok (.putfield 21, 3) := by decide +kernel
theorem d_Ledger_init_34 : decode b_Ledger_init 34 = .ok (.aload_n 0, 1) := by decide +kernel
theorem d_Ledger_init_35 : decode b_Ledger_init 35 = .ok (.bipush 78, 2) := by decide +kernel
theorem d_Ledger_init_37 : decode b_Ledger_init 37 = .ok (.newarray .int, 2) := by decide +kernel
theorem d_Ledger_init_39 : decode b_Ledger_init 39 = .ok (.putfield 25, 3) := by decide +kernel
theorem d_Ledger_init_42 : decode b_Ledger_init 42 = .ok (.aload_n 0, 1) := by decide +kernel
theorem d_Ledger_init_43 : decode b_Ledger_init 43 = .ok (.bipush 78, 2) := by decide +kernel
theorem d_Ledger_init_45 : decode b_Ledger_init 45 = .ok (.newarray .float, 2) := by decide +kernel
theorem d_Ledger_init_47 : decode b_Ledger_init 47 = .ok (.putfield 29, 3) := by decide +kernel
theorem d_Ledger_init_50 : decode b_Ledger_init 50 = .ok (.aload_n 0, 1) := by decide +kernel
theorem d_Ledger_init_51 : decode b_Ledger_init 51 = .ok (.iconst 3, 1) := by decide +kernel
theorem d_Ledger_init_52 : decode b_Ledger_init 52 = .ok (.newarray .int, 2) := by decide +kernel
theorem d_Ledger_init_54 : decode b_Ledger_init 54 = .ok (.putfield 33, 3) := by decide +kernel
theorem d_Ledger_init_57 : decode b_Ledger_init 57 = .ok (.aload_n 0, 1) := by decide +kernel
theorem d_Ledger_init_58 : decode b_Ledger_init 58 = .ok (.bipush 16, 2) := by decide +kernel
theorem d_Ledger_init_60 : decode b_Ledger_init 60 = .ok (.newarray .int, 2) := by decide +kernel
theorem d_Ledger_init_62 : decode b_Ledger_init 62 = .ok (.putfield 36, 3) := by decide +kernel
theorem d_Ledger_init_65 : decode b_Ledger_init 65 = .ok (.aload_n 0, 1) := by decide +kernel
theorem d_Ledger_init_66 : decode b_Ledger_init 66 = .ok (.bipush 16, 2) := by decide +kernel
theorem d_Ledger_init_68 : decode b_Ledger_init 68 = .ok (.newarray .int, 2) := by decide +kernel
theorem d_Ledger_init_70 : decode b_Ledger_init 70 = .ok (.putfield 39, 3) := by decide +kernel
theorem d_Ledger_init_73 : decode b_Ledger_init 73 = .ok (.aload_n 0, 1) := by decide +kernel
theorem d_Ledger_init_74 : decode b_Ledger_init 74 = .ok (.bipush 16, 2) := by decide +kernel
theorem d_Ledger_init_76 : decode b_Ledger_init 76 = .ok (.newarray .int, 2) := by decide +kernel
theorem d_Ledger_init_78 : decode b_Ledger_init 78 = .ok (.putfield 42, 3) := by decide +kernel
theorem d_Ledger_init_81 : decode b_Ledger_init 81 = .ok (.aload_n 0, 1) := by decide +kernel
theorem d_Ledger_init_82 : decode b_Ledger_init 82 = .ok (.iconst 0, 1) := by decide +kernel
theorem d_Ledger_init_83 : decode b_Ledger_init 83 = .ok (.putfield 45, 3) := by decide +kernel
theorem d_Ledger_init_86 : decode b_Ledger_init 86 = .ok (.aload_n 0, 1) := by decide +kernel
theorem d_Ledger_init_87 : decode b_Ledger_init 87 = .ok (.iconst 0, 1) := by decide +kernel
theorem d_Ledger_init_88 : decode b_Ledger_init 88 = .ok (.putfield 49, 3) := by decide +kernel
theorem d_Ledger_init_91 : decode b_Ledger_init 91 = .ok (.aload_n 0, 1) := by decide +kernel
theorem d_Ledger_init_92 : decode b_Ledger_init 92 = .ok (.bipush 50, 2) := by decide +kernel
theorem d_Ledger_init_94 : decode b_Ledger_init 94 = .ok (.putfield 52, 3) := by decide +kernel
theorem d_Ledger_init_97 : decode b_Ledger_init 97 = .ok (.return_, 1) := by decide +kernel
def rm_Ledger_init : Room := { frames := 1, cells := 15, slots := 759, locals := 12 }
def m_Ledger_init (q : Nat) (T : cn_T) : Option cn_T :=
  (cn_pf q 4 0 T.1.length (cn_ma T .int)).bind fun T1 =>
  (cn_pf q 4 1 T1.1.length (cn_ma T1 .long)).bind fun T3 =>
  (cn_pf q 4 2 T3.1.length (cn_ad T3 (.inl (.long, 78)))).bind fun T5 =>
  (cn_pf q 4 3 T5.1.length (cn_ad T5 (.inl (.int, 78)))).bind fun T7 =>
  (cn_pf q 4 4 T7.1.length (cn_ad T7 (.inl (.float, 78)))).bind fun T9 =>
  (cn_pf q 4 5 T9.1.length (cn_ad T9 (.inl (.int, 3)))).bind fun T11 =>
  (cn_pf q 4 6 T11.1.length (cn_ad T11 (.inl (.int, 16)))).bind fun T13 =>
  (cn_pf q 4 7 T13.1.length (cn_ad T13 (.inl (.int, 16)))).bind fun T15 =>
  (cn_pf q 4 8 T15.1.length (cn_ad T15 (.inl (.int, 16)))).bind fun T17 =>
  (cn_pi q 4 9 0 T17).bind fun T19 =>
  (cn_pi q 4 10 0 T19).bind fun T21 =>
  (cn_pi q 4 11 50 T21).bind fun T23 =>
  some T23
set_option maxHeartbeats 4000000 in
set_option maxRecDepth 100000 in
theorem cc_Ledger_init (l : Launch) (G : fm_G) (q : Nat) {T T' : cn_T} (h : m_Ledger_init q T = some T') : cMet l y_Ledger_init b_Ledger_init 1 rm_Ledger_init G T [.ref (G.2.2 + q)] T' 15 759 := by
  refine cn_met (own := "AllocationProfiler$Ledger") (by decide) rfl rfl (Nat.le_of_ble_eq_true rfl) (fun p e s m args below meth c C0 hnm h0 hK ls hl => ?_)
  have hx := C0.1.1
  have hb := C0.1.2.1
  have hl : lv_has ls 1 [(0, .ref (G.2.2 + q))] := hl
  unfold m_Ledger_init at h
  refine lv_aload_n hx hb d_Ledger_init_0 rfl (lv_at hl 0 rfl) ?_
  refine cn_obj C0 (gT_in 70 (by decide +kernel) rfl) oI oC hl.1 ⟨Nat.le_of_ble_eq_true rfl, Nat.le_of_ble_eq_true rfl⟩ d_Ledger_init_1 ?_
  refine lv_aload_n hx hb d_Ledger_init_4 rfl (lv_at hl 0 rfl) ?_
  refine lv_iconst (v := 3) hx hb d_Ledger_init_5 (by decide) ?_
  refine lv_bipush (v := 78) hx hb d_Ledger_init_6 (by decide) ?_
  refine cn_multi C0 (ty := .int) (by decide) (gT_in 71 (by decide +kernel) rfl) aC_int hK ⟨Nat.le_of_ble_eq_true rfl, Nat.le_of_ble_eq_true rfl⟩ d_Ledger_init_8 (fun H locs hK => ?_)
  obtain ⟨T1, e2, h⟩ := ob h
  refine cn_putr C0 hnm Ff_Ledger_11 rfl hK e2 d_Ledger_init_12 (fun H locs hK => ?_)
  refine lv_aload_n hx hb d_Ledger_init_15 rfl (lv_at hl 0 rfl) ?_
  refine lv_iconst (v := 3) hx hb d_Ledger_init_16 (by decide) ?_
  refine lv_bipush (v := 78) hx hb d_Ledger_init_17 (by decide) ?_
  refine cn_multi C0 (ty := .long) (by decide) (gT_in 73 (by decide +kernel) rfl) aC_long hK ⟨Nat.le_of_ble_eq_true rfl, Nat.le_of_ble_eq_true rfl⟩ d_Ledger_init_19 (fun H locs hK => ?_)
  obtain ⟨T3, e4, h⟩ := ob h
  refine cn_putr C0 hnm Ff_Ledger_18 rfl hK e4 d_Ledger_init_23 (fun H locs hK => ?_)
  refine lv_aload_n hx hb d_Ledger_init_26 rfl (lv_at hl 0 rfl) ?_
  refine lv_bipush (v := 78) hx hb d_Ledger_init_27 (by decide) ?_
  refine cn_prim C0 (ty := .long) rfl (by decide) aC_long hK (N0 := 78) (by decide) (by decide) (by decide) ⟨Nat.le_of_ble_eq_true rfl, Nat.le_of_ble_eq_true rfl⟩ d_Ledger_init_29 (fun H hK => ?_)
  obtain ⟨T5, e6, h⟩ := ob h
  refine cn_putr C0 hnm Ff_Ledger_21 rfl hK e6 d_Ledger_init_31 (fun H locs hK => ?_)
  refine lv_aload_n hx hb d_Ledger_init_34 rfl (lv_at hl 0 rfl) ?_
  refine lv_bipush (v := 78) hx hb d_Ledger_init_35 (by decide) ?_
  refine cn_prim C0 (ty := .int) rfl (by decide) aC_int hK (N0 := 78) (by decide) (by decide) (by decide) ⟨Nat.le_of_ble_eq_true rfl, Nat.le_of_ble_eq_true rfl⟩ d_Ledger_init_37 (fun H hK => ?_)
  obtain ⟨T7, e8, h⟩ := ob h
  refine cn_putr C0 hnm Ff_Ledger_25 rfl hK e8 d_Ledger_init_39 (fun H locs hK => ?_)
  refine lv_aload_n hx hb d_Ledger_init_42 rfl (lv_at hl 0 rfl) ?_
  refine lv_bipush (v := 78) hx hb d_Ledger_init_43 (by decide) ?_
  refine cn_prim C0 (ty := .float) rfl (by decide) aC_float hK (N0 := 78) (by decide) (by decide) (by decide) ⟨Nat.le_of_ble_eq_true rfl, Nat.le_of_ble_eq_true rfl⟩ d_Ledger_init_45 (fun H hK => ?_)
  obtain ⟨T9, e10, h⟩ := ob h
  refine cn_putr C0 hnm Ff_Ledger_29 rfl hK e10 d_Ledger_init_47 (fun H locs hK => ?_)
  refine lv_aload_n hx hb d_Ledger_init_50 rfl (lv_at hl 0 rfl) ?_
  refine lv_iconst (v := 3) hx hb d_Ledger_init_51 (by decide) ?_
  refine cn_prim C0 (ty := .int) rfl (by decide) aC_int hK (N0 := 3) (by decide) (by decide) (by decide) ⟨Nat.le_of_ble_eq_true rfl, Nat.le_of_ble_eq_true rfl⟩ d_Ledger_init_52 (fun H hK => ?_)
  obtain ⟨T11, e12, h⟩ := ob h
  refine cn_putr C0 hnm Ff_Ledger_33 rfl hK e12 d_Ledger_init_54 (fun H locs hK => ?_)
  refine lv_aload_n hx hb d_Ledger_init_57 rfl (lv_at hl 0 rfl) ?_
  refine lv_bipush (v := 16) hx hb d_Ledger_init_58 (by decide) ?_
  refine cn_prim C0 (ty := .int) rfl (by decide) aC_int hK (N0 := 16) (by decide) (by decide) (by decide) ⟨Nat.le_of_ble_eq_true rfl, Nat.le_of_ble_eq_true rfl⟩ d_Ledger_init_60 (fun H hK => ?_)
  obtain ⟨T13, e14, h⟩ := ob h
  refine cn_putr C0 hnm Ff_Ledger_36 rfl hK e14 d_Ledger_init_62 (fun H locs hK => ?_)
  refine lv_aload_n hx hb d_Ledger_init_65 rfl (lv_at hl 0 rfl) ?_
  refine lv_bipush (v := 16) hx hb d_Ledger_init_66 (by decide) ?_
  refine cn_prim C0 (ty := .int) rfl (by decide) aC_int hK (N0 := 16) (by decide) (by decide) (by decide) ⟨Nat.le_of_ble_eq_true rfl, Nat.le_of_ble_eq_true rfl⟩ d_Ledger_init_68 (fun H hK => ?_)
  obtain ⟨T15, e16, h⟩ := ob h
  refine cn_putr C0 hnm Ff_Ledger_39 rfl hK e16 d_Ledger_init_70 (fun H locs hK => ?_)
  refine lv_aload_n hx hb d_Ledger_init_73 rfl (lv_at hl 0 rfl) ?_
  refine lv_bipush (v := 16) hx hb d_Ledger_init_74 (by decide) ?_
  refine cn_prim C0 (ty := .int) rfl (by decide) aC_int hK (N0 := 16) (by decide) (by decide) (by decide) ⟨Nat.le_of_ble_eq_true rfl, Nat.le_of_ble_eq_true rfl⟩ d_Ledger_init_76 (fun H hK => ?_)
  obtain ⟨T17, e18, h⟩ := ob h
  refine cn_putr C0 hnm Ff_Ledger_42 rfl hK e18 d_Ledger_init_78 (fun H locs hK => ?_)
  refine lv_aload_n hx hb d_Ledger_init_81 rfl (lv_at hl 0 rfl) ?_
  refine lv_iconst (v := 0) hx hb d_Ledger_init_82 (by decide) ?_
  obtain ⟨T19, e20, h⟩ := ob h
  refine cn_puti C0 Fi_Ledger_45 rfl rfl hK e20 d_Ledger_init_83 (fun H locs hK => ?_)
  refine lv_aload_n hx hb d_Ledger_init_86 rfl (lv_at hl 0 rfl) ?_
  refine lv_iconst (v := 0) hx hb d_Ledger_init_87 (by decide) ?_
  obtain ⟨T21, e22, h⟩ := ob h
  refine cn_puti C0 Fi_Ledger_49 rfl rfl hK e22 d_Ledger_init_88 (fun H locs hK => ?_)
  refine lv_aload_n hx hb d_Ledger_init_91 rfl (lv_at hl 0 rfl) ?_
  refine lv_bipush (v := 50) hx hb d_Ledger_init_92 (by decide) ?_
  obtain ⟨T23, e24, h⟩ := ob h
  refine cn_puti C0 Fi_Ledger_52 rfl rfl hK e24 d_Ledger_init_94 (fun H locs hK => ?_)
  cases h
  exact cn_ret C0 h0 hK d_Ledger_init_97
theorem d_Code_init_0 : decode b_Code_init 0 = .ok (.aload_n 0, 1) := by decide +kernel
theorem d_Code_init_1 : decode b_Code_init 1 = .ok (.invokespecial 3, 3) := by decide +kernel
theorem d_Code_init_4 : decode b_Code_init 4 = .ok (.aload_n 0, 1) := by decide +kernel
theorem d_Code_init_5 : decode b_Code_init 5 = .ok (.iconst 2, 1) := by decide +kernel
theorem d_Code_init_6 : decode b_Code_init 6 = .ok (.newarray .int, 2) := by decide +kernel
theorem d_Code_init_8 : decode b_Code_init 8 = .ok (.putfield 9, 3) := by decide +kernel
theorem d_Code_init_11 : decode b_Code_init 11 = .ok (.aload_n 0, 1) := by decide +kernel
theorem d_Code_init_12 : decode b_Code_init 12 = .ok (.iconst 2, 1) := by decide +kernel
theorem d_Code_init_13 : decode b_Code_init 13 = .ok (.newarray .int, 2) := by decide +kernel
theorem d_Code_init_15 : decode b_Code_init 15 = .ok (.putfield 15, 3) := by decide +kernel
theorem d_Code_init_18 : decode b_Code_init 18 = .ok (.aload_n 0, 1) := by decide +kernel
theorem d_Code_init_19 : decode b_Code_init 19 = .ok (.iconst 2, 1) := by decide +kernel
theorem d_Code_init_20 : decode b_Code_init 20 = .ok (.newarray .int, 2) := by decide +kernel
theorem d_Code_init_22 : decode b_Code_init 22 = .ok (.putfield 18, 3) := by decide +kernel
theorem d_Code_init_25 : decode b_Code_init 25 = .ok (.aload_n 0, 1) := by decide +kernel
theorem d_Code_init_26 : decode b_Code_init 26 = .ok (.iconst 0, 1) := by decide +kernel
theorem d_Code_init_27 : decode b_Code_init 27 = .ok (.putfield 21, 3) := by decide +kernel
theorem d_Code_init_30 : decode b_Code_init 30 = .ok (.aload_n 0, 1) := by decide +kernel
theorem d_Code_init_31 : decode b_Code_init 31 = .ok (.iconst 0, 1) := by decide +kernel
theorem d_Code_init_32 : decode b_Code_init 32 = .ok (.putfield 25, 3) := by decide +kernel
theorem d_Code_init_35 : decode b_Code_init 35 = .ok (.aload_n 0, 1) := by decide +kernel
theorem d_Code_init_36 : decode b_Code_init 36 = .ok (.iload_n 1, 1) := by decide +kernel
theorem d_Code_init_37 : decode b_Code_init 37 = .ok (.newarray .int, 2) := by decide +kernel
theorem d_Code_init_39 : decode b_Code_init 39 = .ok (.putfield 28, 3) := by decide +kernel
theorem d_Code_init_42 : decode b_Code_init 42 = .ok (.aload_n 0, 1) := by decide +kernel
theorem d_Code_init_43 : decode b_Code_init 43 = .ok (.iload_n 1, 1) := by decide +kernel
theorem d_Code_init_44 : decode b_Code_init 44 = .ok (.newarray .int, 2) := by decide +kernel
theorem d_Code_init_46 : decode b_Code_init 46 = .ok (.putfield 31, 3) := by decide +kernel
theorem d_Code_init_49 : decode b_Code_init 49 = .ok (.return_, 1) := by decide +kernel
def rm_Code_init24 : Room := { frames := 1, cells := 5, slots := 54, locals := 12 }
def m_Code_init24 (q : Nat) (T : cn_T) : Option cn_T :=
  (cn_pf q 1 2 T.1.length (cn_ad T (.inl (.int, 2)))).bind fun T1 =>
  (cn_pf q 1 3 T1.1.length (cn_ad T1 (.inl (.int, 2)))).bind fun T3 =>
  (cn_pf q 1 4 T3.1.length (cn_ad T3 (.inl (.int, 2)))).bind fun T5 =>
  (cn_pi q 1 5 0 T5).bind fun T7 =>
  (cn_pi q 1 6 0 T7).bind fun T9 =>
  (cn_pf q 1 0 T9.1.length (cn_ad T9 (.inl (.int, 24)))).bind fun T11 =>
  (cn_pf q 1 1 T11.1.length (cn_ad T11 (.inl (.int, 24)))).bind fun T13 =>
  some T13
set_option maxHeartbeats 4000000 in
set_option maxRecDepth 100000 in
theorem cc_Code_init24 (l : Launch) (G : fm_G) (q : Nat) {T T' : cn_T} (h : m_Code_init24 q T = some T') : cMet l y_Code_init b_Code_init 2 rm_Code_init24 G T [.ref (G.2.2 + q), .int 24] T' 5 54 := by
  refine cn_met (own := "AllocationProfiler$Code") (by decide) rfl rfl (Nat.le_of_ble_eq_true rfl) (fun p e s m args below meth c C0 hnm h0 hK ls hl => ?_)
  have hx := C0.1.1
  have hb := C0.1.2.1
  have hl : lv_has ls 2 [(0, .ref (G.2.2 + q)), (1, .int 24)] := hl
  unfold m_Code_init24 at h
  refine lv_aload_n hx hb d_Code_init_0 rfl (lv_at hl 0 rfl) ?_
  refine cn_obj C0 (gT_in 133 (by decide +kernel) rfl) oI oC hl.1 ⟨Nat.le_of_ble_eq_true rfl, Nat.le_of_ble_eq_true rfl⟩ d_Code_init_1 ?_
  refine lv_aload_n hx hb d_Code_init_4 rfl (lv_at hl 0 rfl) ?_
  refine lv_iconst (v := 2) hx hb d_Code_init_5 (by decide) ?_
  refine cn_prim C0 (ty := .int) rfl (by decide) aC_int hK (N0 := 2) (by decide) (by decide) (by decide) ⟨Nat.le_of_ble_eq_true rfl, Nat.le_of_ble_eq_true rfl⟩ d_Code_init_6 (fun H hK => ?_)
  obtain ⟨T1, e2, h⟩ := ob h
  refine cn_putr C0 hnm Ff_Code_9 rfl hK e2 d_Code_init_8 (fun H locs hK => ?_)
  refine lv_aload_n hx hb d_Code_init_11 rfl (lv_at hl 0 rfl) ?_
  refine lv_iconst (v := 2) hx hb d_Code_init_12 (by decide) ?_
  refine cn_prim C0 (ty := .int) rfl (by decide) aC_int hK (N0 := 2) (by decide) (by decide) (by decide) ⟨Nat.le_of_ble_eq_true rfl, Nat.le_of_ble_eq_true rfl⟩ d_Code_init_13 (fun H hK => ?_)
  obtain ⟨T3, e4, h⟩ := ob h
  refine cn_putr C0 hnm Ff_Code_15 rfl hK e4 d_Code_init_15 (fun H locs hK => ?_)
  refine lv_aload_n hx hb d_Code_init_18 rfl (lv_at hl 0 rfl) ?_
  refine lv_iconst (v := 2) hx hb d_Code_init_19 (by decide) ?_
  refine cn_prim C0 (ty := .int) rfl (by decide) aC_int hK (N0 := 2) (by decide) (by decide) (by decide) ⟨Nat.le_of_ble_eq_true rfl, Nat.le_of_ble_eq_true rfl⟩ d_Code_init_20 (fun H hK => ?_)
  obtain ⟨T5, e6, h⟩ := ob h
  refine cn_putr C0 hnm Ff_Code_18 rfl hK e6 d_Code_init_22 (fun H locs hK => ?_)
  refine lv_aload_n hx hb d_Code_init_25 rfl (lv_at hl 0 rfl) ?_
  refine lv_iconst (v := 0) hx hb d_Code_init_26 (by decide) ?_
  obtain ⟨T7, e8, h⟩ := ob h
  refine cn_puti C0 Fi_Code_21 rfl rfl hK e8 d_Code_init_27 (fun H locs hK => ?_)
  refine lv_aload_n hx hb d_Code_init_30 rfl (lv_at hl 0 rfl) ?_
  refine lv_iconst (v := 0) hx hb d_Code_init_31 (by decide) ?_
  obtain ⟨T9, e10, h⟩ := ob h
  refine cn_puti C0 Fi_Code_25 rfl rfl hK e10 d_Code_init_32 (fun H locs hK => ?_)
  refine lv_aload_n hx hb d_Code_init_35 rfl (lv_at hl 0 rfl) ?_
  refine lv_iload_n hx hb d_Code_init_36 rfl (lv_at hl 1 rfl) ?_
  refine cn_prim C0 (ty := .int) rfl (by decide) aC_int hK (N0 := 24) (by decide) (by decide) (by decide) ⟨Nat.le_of_ble_eq_true rfl, Nat.le_of_ble_eq_true rfl⟩ d_Code_init_37 (fun H hK => ?_)
  obtain ⟨T11, e12, h⟩ := ob h
  refine cn_putr C0 hnm Ff_Code_28 rfl hK e12 d_Code_init_39 (fun H locs hK => ?_)
  refine lv_aload_n hx hb d_Code_init_42 rfl (lv_at hl 0 rfl) ?_
  refine lv_iload_n hx hb d_Code_init_43 rfl (lv_at hl 1 rfl) ?_
  refine cn_prim C0 (ty := .int) rfl (by decide) aC_int hK (N0 := 24) (by decide) (by decide) (by decide) ⟨Nat.le_of_ble_eq_true rfl, Nat.le_of_ble_eq_true rfl⟩ d_Code_init_44 (fun H hK => ?_)
  obtain ⟨T13, e14, h⟩ := ob h
  refine cn_putr C0 hnm Ff_Code_31 rfl hK e14 d_Code_init_46 (fun H locs hK => ?_)
  cases h
  exact cn_ret C0 h0 hK d_Code_init_49
def rm_Code_init28 : Room := { frames := 1, cells := 5, slots := 62, locals := 12 }
def m_Code_init28 (q : Nat) (T : cn_T) : Option cn_T :=
  (cn_pf q 1 2 T.1.length (cn_ad T (.inl (.int, 2)))).bind fun T1 =>
  (cn_pf q 1 3 T1.1.length (cn_ad T1 (.inl (.int, 2)))).bind fun T3 =>
  (cn_pf q 1 4 T3.1.length (cn_ad T3 (.inl (.int, 2)))).bind fun T5 =>
  (cn_pi q 1 5 0 T5).bind fun T7 =>
  (cn_pi q 1 6 0 T7).bind fun T9 =>
  (cn_pf q 1 0 T9.1.length (cn_ad T9 (.inl (.int, 28)))).bind fun T11 =>
  (cn_pf q 1 1 T11.1.length (cn_ad T11 (.inl (.int, 28)))).bind fun T13 =>
  some T13
set_option maxHeartbeats 4000000 in
set_option maxRecDepth 100000 in
theorem cc_Code_init28 (l : Launch) (G : fm_G) (q : Nat) {T T' : cn_T} (h : m_Code_init28 q T = some T') : cMet l y_Code_init b_Code_init 2 rm_Code_init28 G T [.ref (G.2.2 + q), .int 28] T' 5 62 := by
  refine cn_met (own := "AllocationProfiler$Code") (by decide) rfl rfl (Nat.le_of_ble_eq_true rfl) (fun p e s m args below meth c C0 hnm h0 hK ls hl => ?_)
  have hx := C0.1.1
  have hb := C0.1.2.1
  have hl : lv_has ls 2 [(0, .ref (G.2.2 + q)), (1, .int 28)] := hl
  unfold m_Code_init28 at h
  refine lv_aload_n hx hb d_Code_init_0 rfl (lv_at hl 0 rfl) ?_
  refine cn_obj C0 (gT_in 133 (by decide +kernel) rfl) oI oC hl.1 ⟨Nat.le_of_ble_eq_true rfl, Nat.le_of_ble_eq_true rfl⟩ d_Code_init_1 ?_
  refine lv_aload_n hx hb d_Code_init_4 rfl (lv_at hl 0 rfl) ?_
  refine lv_iconst (v := 2) hx hb d_Code_init_5 (by decide) ?_
  refine cn_prim C0 (ty := .int) rfl (by decide) aC_int hK (N0 := 2) (by decide) (by decide) (by decide) ⟨Nat.le_of_ble_eq_true rfl, Nat.le_of_ble_eq_true rfl⟩ d_Code_init_6 (fun H hK => ?_)
  obtain ⟨T1, e2, h⟩ := ob h
  refine cn_putr C0 hnm Ff_Code_9 rfl hK e2 d_Code_init_8 (fun H locs hK => ?_)
  refine lv_aload_n hx hb d_Code_init_11 rfl (lv_at hl 0 rfl) ?_
  refine lv_iconst (v := 2) hx hb d_Code_init_12 (by decide) ?_
  refine cn_prim C0 (ty := .int) rfl (by decide) aC_int hK (N0 := 2) (by decide) (by decide) (by decide) ⟨Nat.le_of_ble_eq_true rfl, Nat.le_of_ble_eq_true rfl⟩ d_Code_init_13 (fun H hK => ?_)
  obtain ⟨T3, e4, h⟩ := ob h
  refine cn_putr C0 hnm Ff_Code_15 rfl hK e4 d_Code_init_15 (fun H locs hK => ?_)
  refine lv_aload_n hx hb d_Code_init_18 rfl (lv_at hl 0 rfl) ?_
  refine lv_iconst (v := 2) hx hb d_Code_init_19 (by decide) ?_
  refine cn_prim C0 (ty := .int) rfl (by decide) aC_int hK (N0 := 2) (by decide) (by decide) (by decide) ⟨Nat.le_of_ble_eq_true rfl, Nat.le_of_ble_eq_true rfl⟩ d_Code_init_20 (fun H hK => ?_)
  obtain ⟨T5, e6, h⟩ := ob h
  refine cn_putr C0 hnm Ff_Code_18 rfl hK e6 d_Code_init_22 (fun H locs hK => ?_)
  refine lv_aload_n hx hb d_Code_init_25 rfl (lv_at hl 0 rfl) ?_
  refine lv_iconst (v := 0) hx hb d_Code_init_26 (by decide) ?_
  obtain ⟨T7, e8, h⟩ := ob h
  refine cn_puti C0 Fi_Code_21 rfl rfl hK e8 d_Code_init_27 (fun H locs hK => ?_)
  refine lv_aload_n hx hb d_Code_init_30 rfl (lv_at hl 0 rfl) ?_
  refine lv_iconst (v := 0) hx hb d_Code_init_31 (by decide) ?_
  obtain ⟨T9, e10, h⟩ := ob h
  refine cn_puti C0 Fi_Code_25 rfl rfl hK e10 d_Code_init_32 (fun H locs hK => ?_)
  refine lv_aload_n hx hb d_Code_init_35 rfl (lv_at hl 0 rfl) ?_
  refine lv_iload_n hx hb d_Code_init_36 rfl (lv_at hl 1 rfl) ?_
  refine cn_prim C0 (ty := .int) rfl (by decide) aC_int hK (N0 := 28) (by decide) (by decide) (by decide) ⟨Nat.le_of_ble_eq_true rfl, Nat.le_of_ble_eq_true rfl⟩ d_Code_init_37 (fun H hK => ?_)
  obtain ⟨T11, e12, h⟩ := ob h
  refine cn_putr C0 hnm Ff_Code_28 rfl hK e12 d_Code_init_39 (fun H locs hK => ?_)
  refine lv_aload_n hx hb d_Code_init_42 rfl (lv_at hl 0 rfl) ?_
  refine lv_iload_n hx hb d_Code_init_43 rfl (lv_at hl 1 rfl) ?_
  refine cn_prim C0 (ty := .int) rfl (by decide) aC_int hK (N0 := 28) (by decide) (by decide) (by decide) ⟨Nat.le_of_ble_eq_true rfl, Nat.le_of_ble_eq_true rfl⟩ d_Code_init_44 (fun H hK => ?_)
  obtain ⟨T13, e14, h⟩ := ob h
  refine cn_putr C0 hnm Ff_Code_31 rfl hK e14 d_Code_init_46 (fun H locs hK => ?_)
  cases h
  exact cn_ret C0 h0 hK d_Code_init_49
theorem d_Method_init_0 : decode b_Method_init 0 = .ok (.aload_n 0, 1) := by decide +kernel
theorem d_Method_init_1 : decode b_Method_init 1 = .ok (.invokespecial 3, 3) := by decide +kernel
theorem d_Method_init_4 : decode b_Method_init 4 = .ok (.aload_n 0, 1) := by decide +kernel
theorem d_Method_init_5 : decode b_Method_init 5 = .ok (.new 9, 3) := by decide +kernel
theorem d_Method_init_8 : decode b_Method_init 8 = .ok (.dup, 1) := by decide +kernel
theorem d_Method_init_9 : decode b_Method_init 9 = .ok (.bipush 24, 2) := by decide +kernel
theorem d_Method_init_11 : decode b_Method_init 11 = .ok (.invokespecial 11, 3) := by decide +kernel
theorem d_Method_init_14 : decode b_Method_init 14 = .ok (.putfield 14, 3) := by decide +kernel
theorem d_Method_init_17 : decode b_Method_init 17 = .ok (.aload_n 0, 1) := by decide +kernel
theorem d_Method_init_18 : decode b_Method_init 18 = .ok (.new 9, 3) := by decide +kernel
theorem d_Method_init_21 : decode b_Method_init 21 = .ok (.dup, 1) := by decide +kernel
theorem d_Method_init_22 : decode b_Method_init 22 = .ok (.bipush 28, 2) := by decide +kernel
theorem d_Method_init_24 : decode b_Method_init 24 = .ok (.invokespecial 11, 3) := by decide +kernel
theorem d_Method_init_27 : decode b_Method_init 27 = .ok (.putfield 20, 3) := by decide +kernel
theorem d_Method_init_30 : decode b_Method_init 30 = .ok (.aload_n 0, 1) := by decide +kernel
theorem d_Method_init_31 : decode b_Method_init 31 = .ok (.bipush 24, 2) := by decide +kernel
theorem d_Method_init_33 : decode b_Method_init 33 = .ok (.newarray .int, 2) := by decide +kernel
theorem d_Method_init_35 : decode b_Method_init 35 = .ok (.putfield 23, 3) := by decide +kernel
theorem d_Method_init_38 : decode b_Method_init 38 = .ok (.aload_n 0, 1) := by decide +kernel
theorem d_Method_init_39 : decode b_Method_init 39 = .ok (.bipush 25, 2) := by decide +kernel
theorem d_Method_init_41 : decode b_Method_init 41 = .ok (.newarray .int, 2) := by decide +kernel
theorem d_Method_init_43 : decode b_Method_init 43 = .ok (.putfield 27, 3) := by decide +kernel
theorem d_Method_init_46 : decode b_Method_init 46 = .ok (.aload_n 0, 1) := by decide +kernel
theorem d_Method_init_47 : decode b_Method_init 47 = .ok (.iconst 0, 1) := by decide +kernel
theorem d_Method_init_48 : decode b_Method_init 48 = .ok (.putfield 30, 3) := by decide +kernel
theorem d_Method_init_51 : decode b_Method_init 51 = .ok (.return_, 1) := by decide +kernel
def rm_Method_init : Room := { frames := 2, cells := 14, slots := 179, locals := 33 }
def m_Method_init (q : Nat) (T : cn_T) : Option cn_T :=
  (m_Code_init24 T.1.length (cn_ad T (.inr (.inr (1, [some none, some none, some none, some none, some none, none, none]))))).bind fun T1 =>
  (cn_pf q 6 0 T.1.length T1).bind fun T3 =>
  (m_Code_init28 T3.1.length (cn_ad T3 (.inr (.inr (1, [some none, some none, some none, some none, some none, none, none]))))).bind fun T5 =>
  (cn_pf q 6 1 T3.1.length T5).bind fun T7 =>
  (cn_pf q 6 2 T7.1.length (cn_ad T7 (.inl (.int, 24)))).bind fun T9 =>
  (cn_pf q 6 3 T9.1.length (cn_ad T9 (.inl (.int, 25)))).bind fun T11 =>
  (cn_pi q 6 4 0 T11).bind fun T13 =>
  some T13
set_option maxHeartbeats 4000000 in
set_option maxRecDepth 100000 in
theorem cc_Method_init (l : Launch) (G : fm_G) (q : Nat) {T T' : cn_T} (h : m_Method_init q T = some T') : cMet l y_Method_init b_Method_init 1 rm_Method_init G T [.ref (G.2.2 + q)] T' 14 179 := by
  refine cn_met (own := "AllocationProfiler$Method") (by decide) rfl rfl (Nat.le_of_ble_eq_true rfl) (fun p e s m args below meth c C0 hnm h0 hK ls hl => ?_)
  have hx := C0.1.1
  have hb := C0.1.2.1
  have hl : lv_has ls 1 [(0, .ref (G.2.2 + q))] := hl
  unfold m_Method_init at h
  refine lv_aload_n hx hb d_Method_init_0 rfl (lv_at hl 0 rfl) ?_
  refine cn_obj C0 (gT_in 127 (by decide +kernel) rfl) oI oC hl.1 ⟨Nat.le_of_ble_eq_true rfl, Nat.le_of_ble_eq_true rfl⟩ d_Method_init_1 ?_
  refine lv_aload_n hx hb d_Method_init_4 rfl (lv_at hl 0 rfl) ?_
  refine cn_new C0 N_Method_9 hK ⟨Nat.le_of_ble_eq_true rfl, Nat.le_of_ble_eq_true rfl⟩ d_Method_init_5 (fun H hK => ?_)
  refine lv_dup hx hb d_Method_init_8 rfl ?_
  refine lv_bipush (v := 24) hx hb d_Method_init_9 (by decide) ?_
  obtain ⟨T1, e2, h⟩ := ob h
  refine cn_callI C0 LI_Method_11 (As := [.int 24]) (cc_Code_init24 l G T.1.length e2) ⟨rfl, rfl⟩ ⟨Nat.le_of_ble_eq_true rfl, Nat.le_of_ble_eq_true rfl⟩ hK rfl hl.1 rfl (Nat.le_of_ble_eq_true rfl) d_Method_init_11 ⟨Nat.le_of_ble_eq_true rfl, Nat.le_of_ble_eq_true rfl⟩ (fun H locs hK => ?_)
  obtain ⟨T3, e4, h⟩ := ob h
  refine cn_putr C0 hnm Ff_Method_14 rfl hK e4 d_Method_init_14 (fun H locs hK => ?_)
  refine lv_aload_n hx hb d_Method_init_17 rfl (lv_at hl 0 rfl) ?_
  refine cn_new C0 N_Method_9 hK ⟨Nat.le_of_ble_eq_true rfl, Nat.le_of_ble_eq_true rfl⟩ d_Method_init_18 (fun H hK => ?_)
  refine lv_dup hx hb d_Method_init_21 rfl ?_
  refine lv_bipush (v := 28) hx hb d_Method_init_22 (by decide) ?_
  obtain ⟨T5, e6, h⟩ := ob h
  refine cn_callI C0 LI_Method_11 (As := [.int 28]) (cc_Code_init28 l G T3.1.length e6) ⟨rfl, rfl⟩ ⟨Nat.le_of_ble_eq_true rfl, Nat.le_of_ble_eq_true rfl⟩ hK rfl hl.1 rfl (Nat.le_of_ble_eq_true rfl) d_Method_init_24 ⟨Nat.le_of_ble_eq_true rfl, Nat.le_of_ble_eq_true rfl⟩ (fun H locs hK => ?_)
  obtain ⟨T7, e8, h⟩ := ob h
  refine cn_putr C0 hnm Ff_Method_20 rfl hK e8 d_Method_init_27 (fun H locs hK => ?_)
  refine lv_aload_n hx hb d_Method_init_30 rfl (lv_at hl 0 rfl) ?_
  refine lv_bipush (v := 24) hx hb d_Method_init_31 (by decide) ?_
  refine cn_prim C0 (ty := .int) rfl (by decide) aC_int hK (N0 := 24) (by decide) (by decide) (by decide) ⟨Nat.le_of_ble_eq_true rfl, Nat.le_of_ble_eq_true rfl⟩ d_Method_init_33 (fun H hK => ?_)
  obtain ⟨T9, e10, h⟩ := ob h
  refine cn_putr C0 hnm Ff_Method_23 rfl hK e10 d_Method_init_35 (fun H locs hK => ?_)
  refine lv_aload_n hx hb d_Method_init_38 rfl (lv_at hl 0 rfl) ?_
  refine lv_bipush (v := 25) hx hb d_Method_init_39 (by decide) ?_
  refine cn_prim C0 (ty := .int) rfl (by decide) aC_int hK (N0 := 25) (by decide) (by decide) (by decide) ⟨Nat.le_of_ble_eq_true rfl, Nat.le_of_ble_eq_true rfl⟩ d_Method_init_41 (fun H hK => ?_)
  obtain ⟨T11, e12, h⟩ := ob h
  refine cn_putr C0 hnm Ff_Method_27 rfl hK e12 d_Method_init_43 (fun H locs hK => ?_)
  refine lv_aload_n hx hb d_Method_init_46 rfl (lv_at hl 0 rfl) ?_
  refine lv_iconst (v := 0) hx hb d_Method_init_47 (by decide) ?_
  obtain ⟨T13, e14, h⟩ := ob h
  refine cn_puti C0 Fi_Method_30 rfl rfl hK e14 d_Method_init_48 (fun H locs hK => ?_)
  cases h
  exact cn_ret C0 h0 hK d_Method_init_51
theorem d_Strand_init_0 : decode b_Strand_init 0 = .ok (.aload_n 0, 1) := by decide +kernel
theorem d_Strand_init_1 : decode b_Strand_init 1 = .ok (.invokespecial 3, 3) := by decide +kernel
theorem d_Strand_init_4 : decode b_Strand_init 4 = .ok (.aload_n 0, 1) := by decide +kernel
theorem d_Strand_init_5 : decode b_Strand_init 5 = .ok (.iconst 5, 1) := by decide +kernel
theorem d_Strand_init_6 : decode b_Strand_init 6 = .ok (.anewarray 9, 3) := by decide +kernel
theorem d_Strand_init_9 : decode b_Strand_init 9 = .ok (.putfield 11, 3) := by decide +kernel
theorem d_Strand_init_12 : decode b_Strand_init 12 = .ok (.aload_n 0, 1) := by decide +kernel
theorem d_Strand_init_13 : decode b_Strand_init 13 = .ok (.iconst 0, 1) := by decide +kernel
theorem d_Strand_init_14 : decode b_Strand_init 14 = .ok (.putfield 17, 3) := by decide +kernel
theorem d_Strand_init_17 : decode b_Strand_init 17 = .ok (.aload_n 0, 1) := by decide +kernel
theorem d_Strand_init_18 : decode b_Strand_init 18 = .ok (.iconst 0, 1) := by decide +kernel
theorem d_Strand_init_19 : decode b_Strand_init 19 = .ok (.putfield 21, 3) := by decide +kernel
theorem d_Strand_init_22 : decode b_Strand_init 22 = .ok (.aload_n 0, 1) := by decide +kernel
theorem d_Strand_init_23 : decode b_Strand_init 23 = .ok (.iconst 0, 1) := by decide +kernel
theorem d_Strand_init_24 : decode b_Strand_init 24 = .ok (.putfield 24, 3) := by decide +kernel
theorem d_Strand_init_27 : decode b_Strand_init 27 = .ok (.aload_n 0, 1) := by decide +kernel
theorem d_Strand_init_28 : decode b_Strand_init 28 = .ok (.iload_n 1, 1) := by decide +kernel
theorem d_Strand_init_29 : decode b_Strand_init 29 = .ok (.putfield 27, 3) := by decide +kernel
theorem d_Strand_init_32 : decode b_Strand_init 32 = .ok (.iconst 0, 1) := by decide +kernel
theorem d_Strand_init_33 : decode b_Strand_init 33 = .ok (.istore_n 2, 1) := by decide +kernel
theorem d_Strand_init_34 : decode b_Strand_init 34 = .ok (.iload_n 2, 1) := by decide +kernel
theorem d_Strand_init_35 : decode b_Strand_init 35 = .ok (.iconst 5, 1) := by decide +kernel
theorem d_Strand_init_36 : decode b_Strand_init 36 = .ok (.if_icmp .ge 22, 3) := by decide +kernel
theorem d_Strand_init_39 : decode b_Strand_init 39 = .ok (.aload_n 0, 1) := by decide +kernel
theorem d_Strand_init_40 : decode b_Strand_init 40 = .ok (.getfield 11, 3) := by decide +kernel
theorem d_Strand_init_43 : decode b_Strand_init 43 = .ok (.iload_n 2, 1) := by decide +kernel
theorem d_Strand_init_44 : decode b_Strand_init 44 = .ok (.new 9, 3) := by decide +kernel
theorem d_Strand_init_47 : decode b_Strand_init 47 = .ok (.dup, 1) := by decide +kernel
theorem d_Strand_init_48 : decode b_Strand_init 48 = .ok (.invokespecial 30, 3) := by decide +kernel
theorem d_Strand_init_51 : decode b_Strand_init 51 = .ok (.aastore, 1) := by decide +kernel
theorem d_Strand_init_52 : decode b_Strand_init 52 = .ok (.iinc 2 1, 3) := by decide +kernel
theorem d_Strand_init_55 : decode b_Strand_init 55 = .ok (.goto (-21), 3) := by decide +kernel
theorem d_Strand_init_58 : decode b_Strand_init 58 = .ok (.return_, 1) := by decide +kernel
def rm_Strand_init0 : Room := { frames := 2, cells := 16, slots := 75, locals := 32 }
def m_Strand_init0 (q : Nat) (T : cn_T) : Option cn_T :=
  (cn_pf q 7 0 T.1.length (cn_ad T (.inr (.inl (.object "AllocationProfiler$Frame", List.replicate 5 none))))).bind fun T1 =>
  (cn_pi q 7 2 0 T1).bind fun T3 =>
  (cn_pi q 7 3 0 T3).bind fun T5 =>
  (cn_pi q 7 4 0 T5).bind fun T7 =>
  (cn_pi q 7 1 0 T7).bind fun T9 =>
  (cn_gr q 7 0 T9).bind fun q11 =>
  (m_Frame_init T9.1.length (cn_ad T9 (.inr (.inr (2, [some none, some none, none, none, none]))))).bind fun T13 =>
  (cn_as q11 0 2 T9.1.length T13).bind fun T15 =>
  (cn_gr q 7 0 T15).bind fun q17 =>
  (m_Frame_init T15.1.length (cn_ad T15 (.inr (.inr (2, [some none, some none, none, none, none]))))).bind fun T19 =>
  (cn_as q17 1 2 T15.1.length T19).bind fun T21 =>
  (cn_gr q 7 0 T21).bind fun q23 =>
  (m_Frame_init T21.1.length (cn_ad T21 (.inr (.inr (2, [some none, some none, none, none, none]))))).bind fun T25 =>
  (cn_as q23 2 2 T21.1.length T25).bind fun T27 =>
  (cn_gr q 7 0 T27).bind fun q29 =>
  (m_Frame_init T27.1.length (cn_ad T27 (.inr (.inr (2, [some none, some none, none, none, none]))))).bind fun T31 =>
  (cn_as q29 3 2 T27.1.length T31).bind fun T33 =>
  (cn_gr q 7 0 T33).bind fun q35 =>
  (m_Frame_init T33.1.length (cn_ad T33 (.inr (.inr (2, [some none, some none, none, none, none]))))).bind fun T37 =>
  (cn_as q35 4 2 T33.1.length T37).bind fun T39 =>
  some T39
set_option maxHeartbeats 4000000 in
set_option maxRecDepth 100000 in
theorem cc_Strand_init0 (l : Launch) (G : fm_G) (q : Nat) {T T' : cn_T} (h : m_Strand_init0 q T = some T') : cMet l y_Strand_init b_Strand_init 3 rm_Strand_init0 G T [.ref (G.2.2 + q), .int 0] T' 16 75 := by
  refine cn_met (own := "AllocationProfiler$Strand") (by decide) rfl rfl (Nat.le_of_ble_eq_true rfl) (fun p e s m args below meth c C0 hnm h0 hK ls hl => ?_)
  have hx := C0.1.1
  have hb := C0.1.2.1
  have hl : lv_has ls 3 [(0, .ref (G.2.2 + q)), (1, .int 0)] := hl
  unfold m_Strand_init0 at h
  refine lv_aload_n hx hb d_Strand_init_0 rfl (lv_at hl 0 rfl) ?_
  refine cn_obj C0 (gT_in 194 (by decide +kernel) rfl) oI oC hl.1 ⟨Nat.le_of_ble_eq_true rfl, Nat.le_of_ble_eq_true rfl⟩ d_Strand_init_1 ?_
  refine lv_aload_n hx hb d_Strand_init_4 rfl (lv_at hl 0 rfl) ?_
  refine lv_iconst (v := 5) hx hb d_Strand_init_5 (by decide) ?_
  refine cn_refs C0 (C := "AllocationProfiler$Frame") (gT_in 195 (by decide +kernel) rfl) C0.2.1.2.2.1 (t0 := 9) rfl hK (N0 := 5) (by decide) (by decide) (by decide) ⟨Nat.le_of_ble_eq_true rfl, Nat.le_of_ble_eq_true rfl⟩ d_Strand_init_6 (fun H hK => ?_)
  obtain ⟨T1, e2, h⟩ := ob h
  refine cn_putr C0 hnm Ff_Strand_11 rfl hK e2 d_Strand_init_9 (fun H locs hK => ?_)
  refine lv_aload_n hx hb d_Strand_init_12 rfl (lv_at hl 0 rfl) ?_
  refine lv_iconst (v := 0) hx hb d_Strand_init_13 (by decide) ?_
  obtain ⟨T3, e4, h⟩ := ob h
  refine cn_puti C0 Fi_Strand_17 rfl rfl hK e4 d_Strand_init_14 (fun H locs hK => ?_)
  refine lv_aload_n hx hb d_Strand_init_17 rfl (lv_at hl 0 rfl) ?_
  refine lv_iconst (v := 0) hx hb d_Strand_init_18 (by decide) ?_
  obtain ⟨T5, e6, h⟩ := ob h
  refine cn_puti C0 Fi_Strand_21 rfl rfl hK e6 d_Strand_init_19 (fun H locs hK => ?_)
  refine lv_aload_n hx hb d_Strand_init_22 rfl (lv_at hl 0 rfl) ?_
  refine lv_iconst (v := 0) hx hb d_Strand_init_23 (by decide) ?_
  obtain ⟨T7, e8, h⟩ := ob h
  refine cn_puti C0 Fi_Strand_24 rfl rfl hK e8 d_Strand_init_24 (fun H locs hK => ?_)
  refine lv_aload_n hx hb d_Strand_init_27 rfl (lv_at hl 0 rfl) ?_
  refine lv_iload_n hx hb d_Strand_init_28 rfl (lv_at hl 1 rfl) ?_
  obtain ⟨T9, e10, h⟩ := ob h
  refine cn_putn C0 hnm Ff_Strand_27 hK e10 d_Strand_init_29 (fun H locs hK => ?_)
  refine lv_iconst (v := 0) hx hb d_Strand_init_32 (by decide) ?_
  refine lv_istore_n (lv' := [(2, .int 0), (0, .ref (G.2.2 + q)), (1, .int 0)]) hx hb d_Strand_init_33 rfl hl (by decide) rfl (fun ls hl => ?_)
  refine lv_iload_n hx hb d_Strand_init_34 rfl (lv_at hl 0 rfl) ?_
  refine lv_iconst (v := 5) hx hb d_Strand_init_35 (by decide) ?_
  refine lv_icmp_ge (tgt := 58) hx hb d_Strand_init_36 (by decide) (fun c => absurd c (by decide)) (fun _ => ?_)
  refine lv_aload_n hx hb d_Strand_init_39 rfl (lv_at hl 1 rfl) ?_
  obtain ⟨q11, e12, h⟩ := ob h
  refine cn_geti C0 Fg_Strand_11 hK e12 d_Strand_init_40 ?_
  refine lv_iload_n hx hb d_Strand_init_43 rfl (lv_at hl 0 rfl) ?_
  refine cn_new C0 N_Strand_9 hK ⟨Nat.le_of_ble_eq_true rfl, Nat.le_of_ble_eq_true rfl⟩ d_Strand_init_44 (fun H hK => ?_)
  refine lv_dup hx hb d_Strand_init_47 rfl ?_
  obtain ⟨T13, e14, h⟩ := ob h
  refine cn_callI C0 LI_Strand_30 (As := []) (cc_Frame_init l G T9.1.length e14) ⟨rfl, rfl⟩ ⟨Nat.le_of_ble_eq_true rfl, Nat.le_of_ble_eq_true rfl⟩ hK rfl hl.1 rfl (Nat.le_of_ble_eq_true rfl) d_Strand_init_48 ⟨Nat.le_of_ble_eq_true rfl, Nat.le_of_ble_eq_true rfl⟩ (fun H locs hK => ?_)
  obtain ⟨T15, e16, h⟩ := ob h
  refine cn_ast C0 (i0 := 0) (by decide) hK e16 d_Strand_init_51 (fun H locs hK => ?_)
  refine lv_iinc (v := 1) (lv' := [(2, .int 1), (0, .ref (G.2.2 + q)), (1, .int 0)]) hx hb d_Strand_init_52 hl (k := 0) rfl (by decide) (by decide) rfl (fun ls hl => ?_)
  refine lv_goto (tgt := 34) hx hb d_Strand_init_55 (by decide) ?_
  refine lv_iload_n hx hb d_Strand_init_34 rfl (lv_at hl 0 rfl) ?_
  refine lv_iconst (v := 5) hx hb d_Strand_init_35 (by decide) ?_
  refine lv_icmp_ge (tgt := 58) hx hb d_Strand_init_36 (by decide) (fun c => absurd c (by decide)) (fun _ => ?_)
  refine lv_aload_n hx hb d_Strand_init_39 rfl (lv_at hl 1 rfl) ?_
  obtain ⟨q17, e18, h⟩ := ob h
  refine cn_geti C0 Fg_Strand_11 hK e18 d_Strand_init_40 ?_
  refine lv_iload_n hx hb d_Strand_init_43 rfl (lv_at hl 0 rfl) ?_
  refine cn_new C0 N_Strand_9 hK ⟨Nat.le_of_ble_eq_true rfl, Nat.le_of_ble_eq_true rfl⟩ d_Strand_init_44 (fun H hK => ?_)
  refine lv_dup hx hb d_Strand_init_47 rfl ?_
  obtain ⟨T19, e20, h⟩ := ob h
  refine cn_callI C0 LI_Strand_30 (As := []) (cc_Frame_init l G T15.1.length e20) ⟨rfl, rfl⟩ ⟨Nat.le_of_ble_eq_true rfl, Nat.le_of_ble_eq_true rfl⟩ hK rfl hl.1 rfl (Nat.le_of_ble_eq_true rfl) d_Strand_init_48 ⟨Nat.le_of_ble_eq_true rfl, Nat.le_of_ble_eq_true rfl⟩ (fun H locs hK => ?_)
  obtain ⟨T21, e22, h⟩ := ob h
  refine cn_ast C0 (i0 := 1) (by decide) hK e22 d_Strand_init_51 (fun H locs hK => ?_)
  refine lv_iinc (v := 2) (lv' := [(2, .int 2), (0, .ref (G.2.2 + q)), (1, .int 0)]) hx hb d_Strand_init_52 hl (k := 0) rfl (by decide) (by decide) rfl (fun ls hl => ?_)
  refine lv_goto (tgt := 34) hx hb d_Strand_init_55 (by decide) ?_
  refine lv_iload_n hx hb d_Strand_init_34 rfl (lv_at hl 0 rfl) ?_
  refine lv_iconst (v := 5) hx hb d_Strand_init_35 (by decide) ?_
  refine lv_icmp_ge (tgt := 58) hx hb d_Strand_init_36 (by decide) (fun c => absurd c (by decide)) (fun _ => ?_)
  refine lv_aload_n hx hb d_Strand_init_39 rfl (lv_at hl 1 rfl) ?_
  obtain ⟨q23, e24, h⟩ := ob h
  refine cn_geti C0 Fg_Strand_11 hK e24 d_Strand_init_40 ?_
  refine lv_iload_n hx hb d_Strand_init_43 rfl (lv_at hl 0 rfl) ?_
  refine cn_new C0 N_Strand_9 hK ⟨Nat.le_of_ble_eq_true rfl, Nat.le_of_ble_eq_true rfl⟩ d_Strand_init_44 (fun H hK => ?_)
  refine lv_dup hx hb d_Strand_init_47 rfl ?_
  obtain ⟨T25, e26, h⟩ := ob h
  refine cn_callI C0 LI_Strand_30 (As := []) (cc_Frame_init l G T21.1.length e26) ⟨rfl, rfl⟩ ⟨Nat.le_of_ble_eq_true rfl, Nat.le_of_ble_eq_true rfl⟩ hK rfl hl.1 rfl (Nat.le_of_ble_eq_true rfl) d_Strand_init_48 ⟨Nat.le_of_ble_eq_true rfl, Nat.le_of_ble_eq_true rfl⟩ (fun H locs hK => ?_)
  obtain ⟨T27, e28, h⟩ := ob h
  refine cn_ast C0 (i0 := 2) (by decide) hK e28 d_Strand_init_51 (fun H locs hK => ?_)
  refine lv_iinc (v := 3) (lv' := [(2, .int 3), (0, .ref (G.2.2 + q)), (1, .int 0)]) hx hb d_Strand_init_52 hl (k := 0) rfl (by decide) (by decide) rfl (fun ls hl => ?_)
  refine lv_goto (tgt := 34) hx hb d_Strand_init_55 (by decide) ?_
  refine lv_iload_n hx hb d_Strand_init_34 rfl (lv_at hl 0 rfl) ?_
  refine lv_iconst (v := 5) hx hb d_Strand_init_35 (by decide) ?_
  refine lv_icmp_ge (tgt := 58) hx hb d_Strand_init_36 (by decide) (fun c => absurd c (by decide)) (fun _ => ?_)
  refine lv_aload_n hx hb d_Strand_init_39 rfl (lv_at hl 1 rfl) ?_
  obtain ⟨q29, e30, h⟩ := ob h
  refine cn_geti C0 Fg_Strand_11 hK e30 d_Strand_init_40 ?_
  refine lv_iload_n hx hb d_Strand_init_43 rfl (lv_at hl 0 rfl) ?_
  refine cn_new C0 N_Strand_9 hK ⟨Nat.le_of_ble_eq_true rfl, Nat.le_of_ble_eq_true rfl⟩ d_Strand_init_44 (fun H hK => ?_)
  refine lv_dup hx hb d_Strand_init_47 rfl ?_
  obtain ⟨T31, e32, h⟩ := ob h
  refine cn_callI C0 LI_Strand_30 (As := []) (cc_Frame_init l G T27.1.length e32) ⟨rfl, rfl⟩ ⟨Nat.le_of_ble_eq_true rfl, Nat.le_of_ble_eq_true rfl⟩ hK rfl hl.1 rfl (Nat.le_of_ble_eq_true rfl) d_Strand_init_48 ⟨Nat.le_of_ble_eq_true rfl, Nat.le_of_ble_eq_true rfl⟩ (fun H locs hK => ?_)
  obtain ⟨T33, e34, h⟩ := ob h
  refine cn_ast C0 (i0 := 3) (by decide) hK e34 d_Strand_init_51 (fun H locs hK => ?_)
  refine lv_iinc (v := 4) (lv' := [(2, .int 4), (0, .ref (G.2.2 + q)), (1, .int 0)]) hx hb d_Strand_init_52 hl (k := 0) rfl (by decide) (by decide) rfl (fun ls hl => ?_)
  refine lv_goto (tgt := 34) hx hb d_Strand_init_55 (by decide) ?_
  refine lv_iload_n hx hb d_Strand_init_34 rfl (lv_at hl 0 rfl) ?_
  refine lv_iconst (v := 5) hx hb d_Strand_init_35 (by decide) ?_
  refine lv_icmp_ge (tgt := 58) hx hb d_Strand_init_36 (by decide) (fun c => absurd c (by decide)) (fun _ => ?_)
  refine lv_aload_n hx hb d_Strand_init_39 rfl (lv_at hl 1 rfl) ?_
  obtain ⟨q35, e36, h⟩ := ob h
  refine cn_geti C0 Fg_Strand_11 hK e36 d_Strand_init_40 ?_
  refine lv_iload_n hx hb d_Strand_init_43 rfl (lv_at hl 0 rfl) ?_
  refine cn_new C0 N_Strand_9 hK ⟨Nat.le_of_ble_eq_true rfl, Nat.le_of_ble_eq_true rfl⟩ d_Strand_init_44 (fun H hK => ?_)
  refine lv_dup hx hb d_Strand_init_47 rfl ?_
  obtain ⟨T37, e38, h⟩ := ob h
  refine cn_callI C0 LI_Strand_30 (As := []) (cc_Frame_init l G T33.1.length e38) ⟨rfl, rfl⟩ ⟨Nat.le_of_ble_eq_true rfl, Nat.le_of_ble_eq_true rfl⟩ hK rfl hl.1 rfl (Nat.le_of_ble_eq_true rfl) d_Strand_init_48 ⟨Nat.le_of_ble_eq_true rfl, Nat.le_of_ble_eq_true rfl⟩ (fun H locs hK => ?_)
  obtain ⟨T39, e40, h⟩ := ob h
  refine cn_ast C0 (i0 := 4) (by decide) hK e40 d_Strand_init_51 (fun H locs hK => ?_)
  refine lv_iinc (v := 5) (lv' := [(2, .int 5), (0, .ref (G.2.2 + q)), (1, .int 0)]) hx hb d_Strand_init_52 hl (k := 0) rfl (by decide) (by decide) rfl (fun ls hl => ?_)
  refine lv_goto (tgt := 34) hx hb d_Strand_init_55 (by decide) ?_
  refine lv_iload_n hx hb d_Strand_init_34 rfl (lv_at hl 0 rfl) ?_
  refine lv_iconst (v := 5) hx hb d_Strand_init_35 (by decide) ?_
  refine lv_icmp_ge (tgt := 58) hx hb d_Strand_init_36 (by decide) (fun _ => ?_) (fun c => absurd (by decide) c)
  cases h
  exact cn_ret C0 h0 hK d_Strand_init_58
def rm_Strand_init1 : Room := { frames := 2, cells := 16, slots := 75, locals := 32 }
def m_Strand_init1 (q : Nat) (T : cn_T) : Option cn_T :=
  (cn_pf q 7 0 T.1.length (cn_ad T (.inr (.inl (.object "AllocationProfiler$Frame", List.replicate 5 none))))).bind fun T1 =>
  (cn_pi q 7 2 0 T1).bind fun T3 =>
  (cn_pi q 7 3 0 T3).bind fun T5 =>
  (cn_pi q 7 4 0 T5).bind fun T7 =>
  (cn_pi q 7 1 1 T7).bind fun T9 =>
  (cn_gr q 7 0 T9).bind fun q11 =>
  (m_Frame_init T9.1.length (cn_ad T9 (.inr (.inr (2, [some none, some none, none, none, none]))))).bind fun T13 =>
  (cn_as q11 0 2 T9.1.length T13).bind fun T15 =>
  (cn_gr q 7 0 T15).bind fun q17 =>
  (m_Frame_init T15.1.length (cn_ad T15 (.inr (.inr (2, [some none, some none, none, none, none]))))).bind fun T19 =>
  (cn_as q17 1 2 T15.1.length T19).bind fun T21 =>
  (cn_gr q 7 0 T21).bind fun q23 =>
  (m_Frame_init T21.1.length (cn_ad T21 (.inr (.inr (2, [some none, some none, none, none, none]))))).bind fun T25 =>
  (cn_as q23 2 2 T21.1.length T25).bind fun T27 =>
  (cn_gr q 7 0 T27).bind fun q29 =>
  (m_Frame_init T27.1.length (cn_ad T27 (.inr (.inr (2, [some none, some none, none, none, none]))))).bind fun T31 =>
  (cn_as q29 3 2 T27.1.length T31).bind fun T33 =>
  (cn_gr q 7 0 T33).bind fun q35 =>
  (m_Frame_init T33.1.length (cn_ad T33 (.inr (.inr (2, [some none, some none, none, none, none]))))).bind fun T37 =>
  (cn_as q35 4 2 T33.1.length T37).bind fun T39 =>
  some T39
set_option maxHeartbeats 4000000 in
set_option maxRecDepth 100000 in
theorem cc_Strand_init1 (l : Launch) (G : fm_G) (q : Nat) {T T' : cn_T} (h : m_Strand_init1 q T = some T') : cMet l y_Strand_init b_Strand_init 3 rm_Strand_init1 G T [.ref (G.2.2 + q), .int 1] T' 16 75 := by
  refine cn_met (own := "AllocationProfiler$Strand") (by decide) rfl rfl (Nat.le_of_ble_eq_true rfl) (fun p e s m args below meth c C0 hnm h0 hK ls hl => ?_)
  have hx := C0.1.1
  have hb := C0.1.2.1
  have hl : lv_has ls 3 [(0, .ref (G.2.2 + q)), (1, .int 1)] := hl
  unfold m_Strand_init1 at h
  refine lv_aload_n hx hb d_Strand_init_0 rfl (lv_at hl 0 rfl) ?_
  refine cn_obj C0 (gT_in 194 (by decide +kernel) rfl) oI oC hl.1 ⟨Nat.le_of_ble_eq_true rfl, Nat.le_of_ble_eq_true rfl⟩ d_Strand_init_1 ?_
  refine lv_aload_n hx hb d_Strand_init_4 rfl (lv_at hl 0 rfl) ?_
  refine lv_iconst (v := 5) hx hb d_Strand_init_5 (by decide) ?_
  refine cn_refs C0 (C := "AllocationProfiler$Frame") (gT_in 195 (by decide +kernel) rfl) C0.2.1.2.2.1 (t0 := 9) rfl hK (N0 := 5) (by decide) (by decide) (by decide) ⟨Nat.le_of_ble_eq_true rfl, Nat.le_of_ble_eq_true rfl⟩ d_Strand_init_6 (fun H hK => ?_)
  obtain ⟨T1, e2, h⟩ := ob h
  refine cn_putr C0 hnm Ff_Strand_11 rfl hK e2 d_Strand_init_9 (fun H locs hK => ?_)
  refine lv_aload_n hx hb d_Strand_init_12 rfl (lv_at hl 0 rfl) ?_
  refine lv_iconst (v := 0) hx hb d_Strand_init_13 (by decide) ?_
  obtain ⟨T3, e4, h⟩ := ob h
  refine cn_puti C0 Fi_Strand_17 rfl rfl hK e4 d_Strand_init_14 (fun H locs hK => ?_)
  refine lv_aload_n hx hb d_Strand_init_17 rfl (lv_at hl 0 rfl) ?_
  refine lv_iconst (v := 0) hx hb d_Strand_init_18 (by decide) ?_
  obtain ⟨T5, e6, h⟩ := ob h
  refine cn_puti C0 Fi_Strand_21 rfl rfl hK e6 d_Strand_init_19 (fun H locs hK => ?_)
  refine lv_aload_n hx hb d_Strand_init_22 rfl (lv_at hl 0 rfl) ?_
  refine lv_iconst (v := 0) hx hb d_Strand_init_23 (by decide) ?_
  obtain ⟨T7, e8, h⟩ := ob h
  refine cn_puti C0 Fi_Strand_24 rfl rfl hK e8 d_Strand_init_24 (fun H locs hK => ?_)
  refine lv_aload_n hx hb d_Strand_init_27 rfl (lv_at hl 0 rfl) ?_
  refine lv_iload_n hx hb d_Strand_init_28 rfl (lv_at hl 1 rfl) ?_
  obtain ⟨T9, e10, h⟩ := ob h
  refine cn_putn C0 hnm Ff_Strand_27 hK e10 d_Strand_init_29 (fun H locs hK => ?_)
  refine lv_iconst (v := 0) hx hb d_Strand_init_32 (by decide) ?_
  refine lv_istore_n (lv' := [(2, .int 0), (0, .ref (G.2.2 + q)), (1, .int 1)]) hx hb d_Strand_init_33 rfl hl (by decide) rfl (fun ls hl => ?_)
  refine lv_iload_n hx hb d_Strand_init_34 rfl (lv_at hl 0 rfl) ?_
  refine lv_iconst (v := 5) hx hb d_Strand_init_35 (by decide) ?_
  refine lv_icmp_ge (tgt := 58) hx hb d_Strand_init_36 (by decide) (fun c => absurd c (by decide)) (fun _ => ?_)
  refine lv_aload_n hx hb d_Strand_init_39 rfl (lv_at hl 1 rfl) ?_
  obtain ⟨q11, e12, h⟩ := ob h
  refine cn_geti C0 Fg_Strand_11 hK e12 d_Strand_init_40 ?_
  refine lv_iload_n hx hb d_Strand_init_43 rfl (lv_at hl 0 rfl) ?_
  refine cn_new C0 N_Strand_9 hK ⟨Nat.le_of_ble_eq_true rfl, Nat.le_of_ble_eq_true rfl⟩ d_Strand_init_44 (fun H hK => ?_)
  refine lv_dup hx hb d_Strand_init_47 rfl ?_
  obtain ⟨T13, e14, h⟩ := ob h
  refine cn_callI C0 LI_Strand_30 (As := []) (cc_Frame_init l G T9.1.length e14) ⟨rfl, rfl⟩ ⟨Nat.le_of_ble_eq_true rfl, Nat.le_of_ble_eq_true rfl⟩ hK rfl hl.1 rfl (Nat.le_of_ble_eq_true rfl) d_Strand_init_48 ⟨Nat.le_of_ble_eq_true rfl, Nat.le_of_ble_eq_true rfl⟩ (fun H locs hK => ?_)
  obtain ⟨T15, e16, h⟩ := ob h
  refine cn_ast C0 (i0 := 0) (by decide) hK e16 d_Strand_init_51 (fun H locs hK => ?_)
  refine lv_iinc (v := 1) (lv' := [(2, .int 1), (0, .ref (G.2.2 + q)), (1, .int 1)]) hx hb d_Strand_init_52 hl (k := 0) rfl (by decide) (by decide) rfl (fun ls hl => ?_)
  refine lv_goto (tgt := 34) hx hb d_Strand_init_55 (by decide) ?_
  refine lv_iload_n hx hb d_Strand_init_34 rfl (lv_at hl 0 rfl) ?_
  refine lv_iconst (v := 5) hx hb d_Strand_init_35 (by decide) ?_
  refine lv_icmp_ge (tgt := 58) hx hb d_Strand_init_36 (by decide) (fun c => absurd c (by decide)) (fun _ => ?_)
  refine lv_aload_n hx hb d_Strand_init_39 rfl (lv_at hl 1 rfl) ?_
  obtain ⟨q17, e18, h⟩ := ob h
  refine cn_geti C0 Fg_Strand_11 hK e18 d_Strand_init_40 ?_
  refine lv_iload_n hx hb d_Strand_init_43 rfl (lv_at hl 0 rfl) ?_
  refine cn_new C0 N_Strand_9 hK ⟨Nat.le_of_ble_eq_true rfl, Nat.le_of_ble_eq_true rfl⟩ d_Strand_init_44 (fun H hK => ?_)
  refine lv_dup hx hb d_Strand_init_47 rfl ?_
  obtain ⟨T19, e20, h⟩ := ob h
  refine cn_callI C0 LI_Strand_30 (As := []) (cc_Frame_init l G T15.1.length e20) ⟨rfl, rfl⟩ ⟨Nat.le_of_ble_eq_true rfl, Nat.le_of_ble_eq_true rfl⟩ hK rfl hl.1 rfl (Nat.le_of_ble_eq_true rfl) d_Strand_init_48 ⟨Nat.le_of_ble_eq_true rfl, Nat.le_of_ble_eq_true rfl⟩ (fun H locs hK => ?_)
  obtain ⟨T21, e22, h⟩ := ob h
  refine cn_ast C0 (i0 := 1) (by decide) hK e22 d_Strand_init_51 (fun H locs hK => ?_)
  refine lv_iinc (v := 2) (lv' := [(2, .int 2), (0, .ref (G.2.2 + q)), (1, .int 1)]) hx hb d_Strand_init_52 hl (k := 0) rfl (by decide) (by decide) rfl (fun ls hl => ?_)
  refine lv_goto (tgt := 34) hx hb d_Strand_init_55 (by decide) ?_
  refine lv_iload_n hx hb d_Strand_init_34 rfl (lv_at hl 0 rfl) ?_
  refine lv_iconst (v := 5) hx hb d_Strand_init_35 (by decide) ?_
  refine lv_icmp_ge (tgt := 58) hx hb d_Strand_init_36 (by decide) (fun c => absurd c (by decide)) (fun _ => ?_)
  refine lv_aload_n hx hb d_Strand_init_39 rfl (lv_at hl 1 rfl) ?_
  obtain ⟨q23, e24, h⟩ := ob h
  refine cn_geti C0 Fg_Strand_11 hK e24 d_Strand_init_40 ?_
  refine lv_iload_n hx hb d_Strand_init_43 rfl (lv_at hl 0 rfl) ?_
  refine cn_new C0 N_Strand_9 hK ⟨Nat.le_of_ble_eq_true rfl, Nat.le_of_ble_eq_true rfl⟩ d_Strand_init_44 (fun H hK => ?_)
  refine lv_dup hx hb d_Strand_init_47 rfl ?_
  obtain ⟨T25, e26, h⟩ := ob h
  refine cn_callI C0 LI_Strand_30 (As := []) (cc_Frame_init l G T21.1.length e26) ⟨rfl, rfl⟩ ⟨Nat.le_of_ble_eq_true rfl, Nat.le_of_ble_eq_true rfl⟩ hK rfl hl.1 rfl (Nat.le_of_ble_eq_true rfl) d_Strand_init_48 ⟨Nat.le_of_ble_eq_true rfl, Nat.le_of_ble_eq_true rfl⟩ (fun H locs hK => ?_)
  obtain ⟨T27, e28, h⟩ := ob h
  refine cn_ast C0 (i0 := 2) (by decide) hK e28 d_Strand_init_51 (fun H locs hK => ?_)
  refine lv_iinc (v := 3) (lv' := [(2, .int 3), (0, .ref (G.2.2 + q)), (1, .int 1)]) hx hb d_Strand_init_52 hl (k := 0) rfl (by decide) (by decide) rfl (fun ls hl => ?_)
  refine lv_goto (tgt := 34) hx hb d_Strand_init_55 (by decide) ?_
  refine lv_iload_n hx hb d_Strand_init_34 rfl (lv_at hl 0 rfl) ?_
  refine lv_iconst (v := 5) hx hb d_Strand_init_35 (by decide) ?_
  refine lv_icmp_ge (tgt := 58) hx hb d_Strand_init_36 (by decide) (fun c => absurd c (by decide)) (fun _ => ?_)
  refine lv_aload_n hx hb d_Strand_init_39 rfl (lv_at hl 1 rfl) ?_
  obtain ⟨q29, e30, h⟩ := ob h
  refine cn_geti C0 Fg_Strand_11 hK e30 d_Strand_init_40 ?_
  refine lv_iload_n hx hb d_Strand_init_43 rfl (lv_at hl 0 rfl) ?_
  refine cn_new C0 N_Strand_9 hK ⟨Nat.le_of_ble_eq_true rfl, Nat.le_of_ble_eq_true rfl⟩ d_Strand_init_44 (fun H hK => ?_)
  refine lv_dup hx hb d_Strand_init_47 rfl ?_
  obtain ⟨T31, e32, h⟩ := ob h
  refine cn_callI C0 LI_Strand_30 (As := []) (cc_Frame_init l G T27.1.length e32) ⟨rfl, rfl⟩ ⟨Nat.le_of_ble_eq_true rfl, Nat.le_of_ble_eq_true rfl⟩ hK rfl hl.1 rfl (Nat.le_of_ble_eq_true rfl) d_Strand_init_48 ⟨Nat.le_of_ble_eq_true rfl, Nat.le_of_ble_eq_true rfl⟩ (fun H locs hK => ?_)
  obtain ⟨T33, e34, h⟩ := ob h
  refine cn_ast C0 (i0 := 3) (by decide) hK e34 d_Strand_init_51 (fun H locs hK => ?_)
  refine lv_iinc (v := 4) (lv' := [(2, .int 4), (0, .ref (G.2.2 + q)), (1, .int 1)]) hx hb d_Strand_init_52 hl (k := 0) rfl (by decide) (by decide) rfl (fun ls hl => ?_)
  refine lv_goto (tgt := 34) hx hb d_Strand_init_55 (by decide) ?_
  refine lv_iload_n hx hb d_Strand_init_34 rfl (lv_at hl 0 rfl) ?_
  refine lv_iconst (v := 5) hx hb d_Strand_init_35 (by decide) ?_
  refine lv_icmp_ge (tgt := 58) hx hb d_Strand_init_36 (by decide) (fun c => absurd c (by decide)) (fun _ => ?_)
  refine lv_aload_n hx hb d_Strand_init_39 rfl (lv_at hl 1 rfl) ?_
  obtain ⟨q35, e36, h⟩ := ob h
  refine cn_geti C0 Fg_Strand_11 hK e36 d_Strand_init_40 ?_
  refine lv_iload_n hx hb d_Strand_init_43 rfl (lv_at hl 0 rfl) ?_
  refine cn_new C0 N_Strand_9 hK ⟨Nat.le_of_ble_eq_true rfl, Nat.le_of_ble_eq_true rfl⟩ d_Strand_init_44 (fun H hK => ?_)
  refine lv_dup hx hb d_Strand_init_47 rfl ?_
  obtain ⟨T37, e38, h⟩ := ob h
  refine cn_callI C0 LI_Strand_30 (As := []) (cc_Frame_init l G T33.1.length e38) ⟨rfl, rfl⟩ ⟨Nat.le_of_ble_eq_true rfl, Nat.le_of_ble_eq_true rfl⟩ hK rfl hl.1 rfl (Nat.le_of_ble_eq_true rfl) d_Strand_init_48 ⟨Nat.le_of_ble_eq_true rfl, Nat.le_of_ble_eq_true rfl⟩ (fun H locs hK => ?_)
  obtain ⟨T39, e40, h⟩ := ob h
  refine cn_ast C0 (i0 := 4) (by decide) hK e40 d_Strand_init_51 (fun H locs hK => ?_)
  refine lv_iinc (v := 5) (lv' := [(2, .int 5), (0, .ref (G.2.2 + q)), (1, .int 1)]) hx hb d_Strand_init_52 hl (k := 0) rfl (by decide) (by decide) rfl (fun ls hl => ?_)
  refine lv_goto (tgt := 34) hx hb d_Strand_init_55 (by decide) ?_
  refine lv_iload_n hx hb d_Strand_init_34 rfl (lv_at hl 0 rfl) ?_
  refine lv_iconst (v := 5) hx hb d_Strand_init_35 (by decide) ?_
  refine lv_icmp_ge (tgt := 58) hx hb d_Strand_init_36 (by decide) (fun _ => ?_) (fun c => absurd (by decide) c)
  cases h
  exact cn_ret C0 h0 hK d_Strand_init_58
def rm_Strand_init2 : Room := { frames := 2, cells := 16, slots := 75, locals := 32 }
def m_Strand_init2 (q : Nat) (T : cn_T) : Option cn_T :=
  (cn_pf q 7 0 T.1.length (cn_ad T (.inr (.inl (.object "AllocationProfiler$Frame", List.replicate 5 none))))).bind fun T1 =>
  (cn_pi q 7 2 0 T1).bind fun T3 =>
  (cn_pi q 7 3 0 T3).bind fun T5 =>
  (cn_pi q 7 4 0 T5).bind fun T7 =>
  (cn_pi q 7 1 2 T7).bind fun T9 =>
  (cn_gr q 7 0 T9).bind fun q11 =>
  (m_Frame_init T9.1.length (cn_ad T9 (.inr (.inr (2, [some none, some none, none, none, none]))))).bind fun T13 =>
  (cn_as q11 0 2 T9.1.length T13).bind fun T15 =>
  (cn_gr q 7 0 T15).bind fun q17 =>
  (m_Frame_init T15.1.length (cn_ad T15 (.inr (.inr (2, [some none, some none, none, none, none]))))).bind fun T19 =>
  (cn_as q17 1 2 T15.1.length T19).bind fun T21 =>
  (cn_gr q 7 0 T21).bind fun q23 =>
  (m_Frame_init T21.1.length (cn_ad T21 (.inr (.inr (2, [some none, some none, none, none, none]))))).bind fun T25 =>
  (cn_as q23 2 2 T21.1.length T25).bind fun T27 =>
  (cn_gr q 7 0 T27).bind fun q29 =>
  (m_Frame_init T27.1.length (cn_ad T27 (.inr (.inr (2, [some none, some none, none, none, none]))))).bind fun T31 =>
  (cn_as q29 3 2 T27.1.length T31).bind fun T33 =>
  (cn_gr q 7 0 T33).bind fun q35 =>
  (m_Frame_init T33.1.length (cn_ad T33 (.inr (.inr (2, [some none, some none, none, none, none]))))).bind fun T37 =>
  (cn_as q35 4 2 T33.1.length T37).bind fun T39 =>
  some T39
set_option maxHeartbeats 4000000 in
set_option maxRecDepth 100000 in
theorem cc_Strand_init2 (l : Launch) (G : fm_G) (q : Nat) {T T' : cn_T} (h : m_Strand_init2 q T = some T') : cMet l y_Strand_init b_Strand_init 3 rm_Strand_init2 G T [.ref (G.2.2 + q), .int 2] T' 16 75 := by
  refine cn_met (own := "AllocationProfiler$Strand") (by decide) rfl rfl (Nat.le_of_ble_eq_true rfl) (fun p e s m args below meth c C0 hnm h0 hK ls hl => ?_)
  have hx := C0.1.1
  have hb := C0.1.2.1
  have hl : lv_has ls 3 [(0, .ref (G.2.2 + q)), (1, .int 2)] := hl
  unfold m_Strand_init2 at h
  refine lv_aload_n hx hb d_Strand_init_0 rfl (lv_at hl 0 rfl) ?_
  refine cn_obj C0 (gT_in 194 (by decide +kernel) rfl) oI oC hl.1 ⟨Nat.le_of_ble_eq_true rfl, Nat.le_of_ble_eq_true rfl⟩ d_Strand_init_1 ?_
  refine lv_aload_n hx hb d_Strand_init_4 rfl (lv_at hl 0 rfl) ?_
  refine lv_iconst (v := 5) hx hb d_Strand_init_5 (by decide) ?_
  refine cn_refs C0 (C := "AllocationProfiler$Frame") (gT_in 195 (by decide +kernel) rfl) C0.2.1.2.2.1 (t0 := 9) rfl hK (N0 := 5) (by decide) (by decide) (by decide) ⟨Nat.le_of_ble_eq_true rfl, Nat.le_of_ble_eq_true rfl⟩ d_Strand_init_6 (fun H hK => ?_)
  obtain ⟨T1, e2, h⟩ := ob h
  refine cn_putr C0 hnm Ff_Strand_11 rfl hK e2 d_Strand_init_9 (fun H locs hK => ?_)
  refine lv_aload_n hx hb d_Strand_init_12 rfl (lv_at hl 0 rfl) ?_
  refine lv_iconst (v := 0) hx hb d_Strand_init_13 (by decide) ?_
  obtain ⟨T3, e4, h⟩ := ob h
  refine cn_puti C0 Fi_Strand_17 rfl rfl hK e4 d_Strand_init_14 (fun H locs hK => ?_)
  refine lv_aload_n hx hb d_Strand_init_17 rfl (lv_at hl 0 rfl) ?_
  refine lv_iconst (v := 0) hx hb d_Strand_init_18 (by decide) ?_
  obtain ⟨T5, e6, h⟩ := ob h
  refine cn_puti C0 Fi_Strand_21 rfl rfl hK e6 d_Strand_init_19 (fun H locs hK => ?_)
  refine lv_aload_n hx hb d_Strand_init_22 rfl (lv_at hl 0 rfl) ?_
  refine lv_iconst (v := 0) hx hb d_Strand_init_23 (by decide) ?_
  obtain ⟨T7, e8, h⟩ := ob h
  refine cn_puti C0 Fi_Strand_24 rfl rfl hK e8 d_Strand_init_24 (fun H locs hK => ?_)
  refine lv_aload_n hx hb d_Strand_init_27 rfl (lv_at hl 0 rfl) ?_
  refine lv_iload_n hx hb d_Strand_init_28 rfl (lv_at hl 1 rfl) ?_
  obtain ⟨T9, e10, h⟩ := ob h
  refine cn_putn C0 hnm Ff_Strand_27 hK e10 d_Strand_init_29 (fun H locs hK => ?_)
  refine lv_iconst (v := 0) hx hb d_Strand_init_32 (by decide) ?_
  refine lv_istore_n (lv' := [(2, .int 0), (0, .ref (G.2.2 + q)), (1, .int 2)]) hx hb d_Strand_init_33 rfl hl (by decide) rfl (fun ls hl => ?_)
  refine lv_iload_n hx hb d_Strand_init_34 rfl (lv_at hl 0 rfl) ?_
  refine lv_iconst (v := 5) hx hb d_Strand_init_35 (by decide) ?_
  refine lv_icmp_ge (tgt := 58) hx hb d_Strand_init_36 (by decide) (fun c => absurd c (by decide)) (fun _ => ?_)
  refine lv_aload_n hx hb d_Strand_init_39 rfl (lv_at hl 1 rfl) ?_
  obtain ⟨q11, e12, h⟩ := ob h
  refine cn_geti C0 Fg_Strand_11 hK e12 d_Strand_init_40 ?_
  refine lv_iload_n hx hb d_Strand_init_43 rfl (lv_at hl 0 rfl) ?_
  refine cn_new C0 N_Strand_9 hK ⟨Nat.le_of_ble_eq_true rfl, Nat.le_of_ble_eq_true rfl⟩ d_Strand_init_44 (fun H hK => ?_)
  refine lv_dup hx hb d_Strand_init_47 rfl ?_
  obtain ⟨T13, e14, h⟩ := ob h
  refine cn_callI C0 LI_Strand_30 (As := []) (cc_Frame_init l G T9.1.length e14) ⟨rfl, rfl⟩ ⟨Nat.le_of_ble_eq_true rfl, Nat.le_of_ble_eq_true rfl⟩ hK rfl hl.1 rfl (Nat.le_of_ble_eq_true rfl) d_Strand_init_48 ⟨Nat.le_of_ble_eq_true rfl, Nat.le_of_ble_eq_true rfl⟩ (fun H locs hK => ?_)
  obtain ⟨T15, e16, h⟩ := ob h
  refine cn_ast C0 (i0 := 0) (by decide) hK e16 d_Strand_init_51 (fun H locs hK => ?_)
  refine lv_iinc (v := 1) (lv' := [(2, .int 1), (0, .ref (G.2.2 + q)), (1, .int 2)]) hx hb d_Strand_init_52 hl (k := 0) rfl (by decide) (by decide) rfl (fun ls hl => ?_)
  refine lv_goto (tgt := 34) hx hb d_Strand_init_55 (by decide) ?_
  refine lv_iload_n hx hb d_Strand_init_34 rfl (lv_at hl 0 rfl) ?_
  refine lv_iconst (v := 5) hx hb d_Strand_init_35 (by decide) ?_
  refine lv_icmp_ge (tgt := 58) hx hb d_Strand_init_36 (by decide) (fun c => absurd c (by decide)) (fun _ => ?_)
  refine lv_aload_n hx hb d_Strand_init_39 rfl (lv_at hl 1 rfl) ?_
  obtain ⟨q17, e18, h⟩ := ob h
  refine cn_geti C0 Fg_Strand_11 hK e18 d_Strand_init_40 ?_
  refine lv_iload_n hx hb d_Strand_init_43 rfl (lv_at hl 0 rfl) ?_
  refine cn_new C0 N_Strand_9 hK ⟨Nat.le_of_ble_eq_true rfl, Nat.le_of_ble_eq_true rfl⟩ d_Strand_init_44 (fun H hK => ?_)
  refine lv_dup hx hb d_Strand_init_47 rfl ?_
  obtain ⟨T19, e20, h⟩ := ob h
  refine cn_callI C0 LI_Strand_30 (As := []) (cc_Frame_init l G T15.1.length e20) ⟨rfl, rfl⟩ ⟨Nat.le_of_ble_eq_true rfl, Nat.le_of_ble_eq_true rfl⟩ hK rfl hl.1 rfl (Nat.le_of_ble_eq_true rfl) d_Strand_init_48 ⟨Nat.le_of_ble_eq_true rfl, Nat.le_of_ble_eq_true rfl⟩ (fun H locs hK => ?_)
  obtain ⟨T21, e22, h⟩ := ob h
  refine cn_ast C0 (i0 := 1) (by decide) hK e22 d_Strand_init_51 (fun H locs hK => ?_)
  refine lv_iinc (v := 2) (lv' := [(2, .int 2), (0, .ref (G.2.2 + q)), (1, .int 2)]) hx hb d_Strand_init_52 hl (k := 0) rfl (by decide) (by decide) rfl (fun ls hl => ?_)
  refine lv_goto (tgt := 34) hx hb d_Strand_init_55 (by decide) ?_
  refine lv_iload_n hx hb d_Strand_init_34 rfl (lv_at hl 0 rfl) ?_
  refine lv_iconst (v := 5) hx hb d_Strand_init_35 (by decide) ?_
  refine lv_icmp_ge (tgt := 58) hx hb d_Strand_init_36 (by decide) (fun c => absurd c (by decide)) (fun _ => ?_)
  refine lv_aload_n hx hb d_Strand_init_39 rfl (lv_at hl 1 rfl) ?_
  obtain ⟨q23, e24, h⟩ := ob h
  refine cn_geti C0 Fg_Strand_11 hK e24 d_Strand_init_40 ?_
  refine lv_iload_n hx hb d_Strand_init_43 rfl (lv_at hl 0 rfl) ?_
  refine cn_new C0 N_Strand_9 hK ⟨Nat.le_of_ble_eq_true rfl, Nat.le_of_ble_eq_true rfl⟩ d_Strand_init_44 (fun H hK => ?_)
  refine lv_dup hx hb d_Strand_init_47 rfl ?_
  obtain ⟨T25, e26, h⟩ := ob h
  refine cn_callI C0 LI_Strand_30 (As := []) (cc_Frame_init l G T21.1.length e26) ⟨rfl, rfl⟩ ⟨Nat.le_of_ble_eq_true rfl, Nat.le_of_ble_eq_true rfl⟩ hK rfl hl.1 rfl (Nat.le_of_ble_eq_true rfl) d_Strand_init_48 ⟨Nat.le_of_ble_eq_true rfl, Nat.le_of_ble_eq_true rfl⟩ (fun H locs hK => ?_)
  obtain ⟨T27, e28, h⟩ := ob h
  refine cn_ast C0 (i0 := 2) (by decide) hK e28 d_Strand_init_51 (fun H locs hK => ?_)
  refine lv_iinc (v := 3) (lv' := [(2, .int 3), (0, .ref (G.2.2 + q)), (1, .int 2)]) hx hb d_Strand_init_52 hl (k := 0) rfl (by decide) (by decide) rfl (fun ls hl => ?_)
  refine lv_goto (tgt := 34) hx hb d_Strand_init_55 (by decide) ?_
  refine lv_iload_n hx hb d_Strand_init_34 rfl (lv_at hl 0 rfl) ?_
  refine lv_iconst (v := 5) hx hb d_Strand_init_35 (by decide) ?_
  refine lv_icmp_ge (tgt := 58) hx hb d_Strand_init_36 (by decide) (fun c => absurd c (by decide)) (fun _ => ?_)
  refine lv_aload_n hx hb d_Strand_init_39 rfl (lv_at hl 1 rfl) ?_
  obtain ⟨q29, e30, h⟩ := ob h
  refine cn_geti C0 Fg_Strand_11 hK e30 d_Strand_init_40 ?_
  refine lv_iload_n hx hb d_Strand_init_43 rfl (lv_at hl 0 rfl) ?_
  refine cn_new C0 N_Strand_9 hK ⟨Nat.le_of_ble_eq_true rfl, Nat.le_of_ble_eq_true rfl⟩ d_Strand_init_44 (fun H hK => ?_)
  refine lv_dup hx hb d_Strand_init_47 rfl ?_
  obtain ⟨T31, e32, h⟩ := ob h
  refine cn_callI C0 LI_Strand_30 (As := []) (cc_Frame_init l G T27.1.length e32) ⟨rfl, rfl⟩ ⟨Nat.le_of_ble_eq_true rfl, Nat.le_of_ble_eq_true rfl⟩ hK rfl hl.1 rfl (Nat.le_of_ble_eq_true rfl) d_Strand_init_48 ⟨Nat.le_of_ble_eq_true rfl, Nat.le_of_ble_eq_true rfl⟩ (fun H locs hK => ?_)
  obtain ⟨T33, e34, h⟩ := ob h
  refine cn_ast C0 (i0 := 3) (by decide) hK e34 d_Strand_init_51 (fun H locs hK => ?_)
  refine lv_iinc (v := 4) (lv' := [(2, .int 4), (0, .ref (G.2.2 + q)), (1, .int 2)]) hx hb d_Strand_init_52 hl (k := 0) rfl (by decide) (by decide) rfl (fun ls hl => ?_)
  refine lv_goto (tgt := 34) hx hb d_Strand_init_55 (by decide) ?_
  refine lv_iload_n hx hb d_Strand_init_34 rfl (lv_at hl 0 rfl) ?_
  refine lv_iconst (v := 5) hx hb d_Strand_init_35 (by decide) ?_
  refine lv_icmp_ge (tgt := 58) hx hb d_Strand_init_36 (by decide) (fun c => absurd c (by decide)) (fun _ => ?_)
  refine lv_aload_n hx hb d_Strand_init_39 rfl (lv_at hl 1 rfl) ?_
  obtain ⟨q35, e36, h⟩ := ob h
  refine cn_geti C0 Fg_Strand_11 hK e36 d_Strand_init_40 ?_
  refine lv_iload_n hx hb d_Strand_init_43 rfl (lv_at hl 0 rfl) ?_
  refine cn_new C0 N_Strand_9 hK ⟨Nat.le_of_ble_eq_true rfl, Nat.le_of_ble_eq_true rfl⟩ d_Strand_init_44 (fun H hK => ?_)
  refine lv_dup hx hb d_Strand_init_47 rfl ?_
  obtain ⟨T37, e38, h⟩ := ob h
  refine cn_callI C0 LI_Strand_30 (As := []) (cc_Frame_init l G T33.1.length e38) ⟨rfl, rfl⟩ ⟨Nat.le_of_ble_eq_true rfl, Nat.le_of_ble_eq_true rfl⟩ hK rfl hl.1 rfl (Nat.le_of_ble_eq_true rfl) d_Strand_init_48 ⟨Nat.le_of_ble_eq_true rfl, Nat.le_of_ble_eq_true rfl⟩ (fun H locs hK => ?_)
  obtain ⟨T39, e40, h⟩ := ob h
  refine cn_ast C0 (i0 := 4) (by decide) hK e40 d_Strand_init_51 (fun H locs hK => ?_)
  refine lv_iinc (v := 5) (lv' := [(2, .int 5), (0, .ref (G.2.2 + q)), (1, .int 2)]) hx hb d_Strand_init_52 hl (k := 0) rfl (by decide) (by decide) rfl (fun ls hl => ?_)
  refine lv_goto (tgt := 34) hx hb d_Strand_init_55 (by decide) ?_
  refine lv_iload_n hx hb d_Strand_init_34 rfl (lv_at hl 0 rfl) ?_
  refine lv_iconst (v := 5) hx hb d_Strand_init_35 (by decide) ?_
  refine lv_icmp_ge (tgt := 58) hx hb d_Strand_init_36 (by decide) (fun _ => ?_) (fun c => absurd (by decide) c)
  cases h
  exact cn_ret C0 h0 hK d_Strand_init_58
theorem d_Checker_init_0 : decode b_Checker_init 0 = .ok (.aload_n 0, 1) := by decide +kernel
theorem d_Checker_init_1 : decode b_Checker_init 1 = .ok (.invokespecial 3, 3) := by decide +kernel
theorem d_Checker_init_4 : decode b_Checker_init 4 = .ok (.aload_n 0, 1) := by decide +kernel
theorem d_Checker_init_5 : decode b_Checker_init 5 = .ok (.bipush 24, 2) := by decide +kernel
theorem d_Checker_init_7 : decode b_Checker_init 7 = .ok (.newarray .int, 2) := by decide +kernel
theorem d_Checker_init_9 : decode b_Checker_init 9 = .ok (.putfield 9, 3) := by decide +kernel
theorem d_Checker_init_12 : decode b_Checker_init 12 = .ok (.aload_n 0, 1) := by decide +kernel
theorem d_Checker_init_13 : decode b_Checker_init 13 = .ok (.sipush 168, 3) := by decide +kernel
theorem d_Checker_init_16 : decode b_Checker_init 16 = .ok (.newarray .int, 2) := by decide +kernel
theorem d_Checker_init_18 : decode b_Checker_init 18 = .ok (.putfield 15, 3) := by decide +kernel
theorem d_Checker_init_21 : decode b_Checker_init 21 = .ok (.aload_n 0, 1) := by decide +kernel
theorem d_Checker_init_22 : decode b_Checker_init 22 = .ok (.iconst 0, 1) := by decide +kernel
theorem d_Checker_init_23 : decode b_Checker_init 23 = .ok (.putfield 18, 3) := by decide +kernel
theorem d_Checker_init_26 : decode b_Checker_init 26 = .ok (.return_, 1) := by decide +kernel
def rm_Checker_init : Room := { frames := 1, cells := 2, slots := 192, locals := 12 }
def m_Checker_init (q : Nat) (T : cn_T) : Option cn_T :=
  (cn_pf q 0 0 T.1.length (cn_ad T (.inl (.int, 24)))).bind fun T1 =>
  (cn_pf q 0 1 T1.1.length (cn_ad T1 (.inl (.int, 168)))).bind fun T3 =>
  (cn_pi q 0 2 0 T3).bind fun T5 =>
  some T5
set_option maxHeartbeats 4000000 in
set_option maxRecDepth 100000 in
theorem cc_Checker_init (l : Launch) (G : fm_G) (q : Nat) {T T' : cn_T} (h : m_Checker_init q T = some T') : cMet l y_Checker_init b_Checker_init 1 rm_Checker_init G T [.ref (G.2.2 + q)] T' 2 192 := by
  refine cn_met (own := "AllocationProfiler$Checker") (by decide) rfl rfl (Nat.le_of_ble_eq_true rfl) (fun p e s m args below meth c C0 hnm h0 hK ls hl => ?_)
  have hx := C0.1.1
  have hb := C0.1.2.1
  have hl : lv_has ls 1 [(0, .ref (G.2.2 + q))] := hl
  unfold m_Checker_init at h
  refine lv_aload_n hx hb d_Checker_init_0 rfl (lv_at hl 0 rfl) ?_
  refine cn_obj C0 (gT_in 274 (by decide +kernel) rfl) oI oC hl.1 ⟨Nat.le_of_ble_eq_true rfl, Nat.le_of_ble_eq_true rfl⟩ d_Checker_init_1 ?_
  refine lv_aload_n hx hb d_Checker_init_4 rfl (lv_at hl 0 rfl) ?_
  refine lv_bipush (v := 24) hx hb d_Checker_init_5 (by decide) ?_
  refine cn_prim C0 (ty := .int) rfl (by decide) aC_int hK (N0 := 24) (by decide) (by decide) (by decide) ⟨Nat.le_of_ble_eq_true rfl, Nat.le_of_ble_eq_true rfl⟩ d_Checker_init_7 (fun H hK => ?_)
  obtain ⟨T1, e2, h⟩ := ob h
  refine cn_putr C0 hnm Ff_Checker_9 rfl hK e2 d_Checker_init_9 (fun H locs hK => ?_)
  refine lv_aload_n hx hb d_Checker_init_12 rfl (lv_at hl 0 rfl) ?_
  refine lv_sipush (v := 168) hx hb d_Checker_init_13 (by decide) ?_
  refine cn_prim C0 (ty := .int) rfl (by decide) aC_int hK (N0 := 168) (by decide) (by decide) (by decide) ⟨Nat.le_of_ble_eq_true rfl, Nat.le_of_ble_eq_true rfl⟩ d_Checker_init_16 (fun H hK => ?_)
  obtain ⟨T3, e4, h⟩ := ob h
  refine cn_putr C0 hnm Ff_Checker_15 rfl hK e4 d_Checker_init_18 (fun H locs hK => ?_)
  refine lv_aload_n hx hb d_Checker_init_21 rfl (lv_at hl 0 rfl) ?_
  refine lv_iconst (v := 0) hx hb d_Checker_init_22 (by decide) ?_
  obtain ⟨T5, e6, h⟩ := ob h
  refine cn_puti C0 Fi_Checker_18 rfl rfl hK e6 d_Checker_init_23 (fun H locs hK => ?_)
  cases h
  exact cn_ret C0 h0 hK d_Checker_init_26
theorem d_Machine_init_0 : decode b_Machine_init 0 = .ok (.aload_n 0, 1) := by decide +kernel
theorem d_Machine_init_1 : decode b_Machine_init 1 = .ok (.invokespecial 3, 3) := by decide +kernel
theorem d_Machine_init_4 : decode b_Machine_init 4 = .ok (.aload_n 0, 1) := by decide +kernel
theorem d_Machine_init_5 : decode b_Machine_init 5 = .ok (.new 9, 3) := by decide +kernel
theorem d_Machine_init_8 : decode b_Machine_init 8 = .ok (.dup, 1) := by decide +kernel
theorem d_Machine_init_9 : decode b_Machine_init 9 = .ok (.invokespecial 11, 3) := by decide +kernel
theorem d_Machine_init_12 : decode b_Machine_init 12 = .ok (.putfield 12, 3) := by decide +kernel
theorem d_Machine_init_15 : decode b_Machine_init 15 = .ok (.aload_n 0, 1) := by decide +kernel
theorem d_Machine_init_16 : decode b_Machine_init 16 = .ok (.bipush 6, 2) := by decide +kernel
theorem d_Machine_init_18 : decode b_Machine_init 18 = .ok (.anewarray 18, 3) := by decide +kernel
theorem d_Machine_init_21 : decode b_Machine_init 21 = .ok (.putfield 20, 3) := by decide +kernel
theorem d_Machine_init_24 : decode b_Machine_init 24 = .ok (.aload_n 0, 1) := by decide +kernel
theorem d_Machine_init_25 : decode b_Machine_init 25 = .ok (.new 24, 3) := by decide +kernel
theorem d_Machine_init_28 : decode b_Machine_init 28 = .ok (.dup, 1) := by decide +kernel
theorem d_Machine_init_29 : decode b_Machine_init 29 = .ok (.invokespecial 26, 3) := by decide +kernel
theorem d_Machine_init_32 : decode b_Machine_init 32 = .ok (.putfield 27, 3) := by decide +kernel
theorem d_Machine_init_35 : decode b_Machine_init 35 = .ok (.aload_n 0, 1) := by decide +kernel
theorem d_Machine_init_36 : decode b_Machine_init 36 = .ok (.new 31, 3) := by decide +kernel
theorem d_Machine_init_39 : decode b_Machine_init 39 = .ok (.dup, 1) := by decide +kernel
theorem d_Machine_init_40 : decode b_Machine_init 40 = .ok (.invokespecial 33, 3) := by decide +kernel
theorem d_Machine_init_43 : decode b_Machine_init 43 = .ok (.putfield 34, 3) := by decide +kernel
theorem d_Machine_init_46 : decode b_Machine_init 46 = .ok (.aload_n 0, 1) := by decide +kernel
theorem d_Machine_init_47 : decode b_Machine_init 47 = .ok (.iconst 3, 1) := by decide +kernel
theorem d_Machine_init_48 : decode b_Machine_init 48 = .ok (.anewarray 38, 3) := by decide +kernel
theorem d_Machine_init_51 : decode b_Machine_init 51 = .ok (.putfield 40, 3) := by decide +kernel
theorem d_Machine_init_54 : decode b_Machine_init 54 = .ok (.aload_n 0, 1) := by decide +kernel
theorem d_Machine_init_55 : decode b_Machine_init 55 = .ok (.iconst 0, 1) := by decide +kernel
theorem d_Machine_init_56 : decode b_Machine_init 56 = .ok (.putfield 44, 3) := by decide +kernel
theorem d_Machine_init_59 : decode b_Machine_init 59 = .ok (.aload_n 0, 1) := by decide +kernel
theorem d_Machine_init_60 : decode b_Machine_init 60 = .ok (.iconst 0, 1) := by decide +kernel
theorem d_Machine_init_61 : decode b_Machine_init 61 = .ok (.putfield 48, 3) := by decide +kernel
theorem d_Machine_init_64 : decode b_Machine_init 64 = .ok (.iconst 0, 1) := by decide +kernel
theorem d_Machine_init_65 : decode b_Machine_init 65 = .ok (.istore_n 1, 1) := by decide +kernel
theorem d_Machine_init_66 : decode b_Machine_init 66 = .ok (.iload_n 1, 1) := by decide +kernel
theorem d_Machine_init_67 : decode b_Machine_init 67 = .ok (.bipush 6, 2) := by decide +kernel
theorem d_Machine_init_69 : decode b_Machine_init 69 = .ok (.if_icmp .ge 22, 3) := by decide +kernel
theorem d_Machine_init_72 : decode b_Machine_init 72 = .ok (.aload_n 0, 1) := by decide +kernel
theorem d_Machine_init_73 : decode b_Machine_init 73 = .ok (.getfield 20, 3) := by decide +kernel
theorem d_Machine_init_76 : decode b_Machine_init 76 = .ok (.iload_n 1, 1) := by decide +kernel
theorem d_Machine_init_77 : decode b_Machine_init 77 = .ok (.new 18, 3) := by decide +kernel
theorem d_Machine_init_80 : decode b_Machine_init 80 = .ok (.dup, 1) := by decide +kernel
theorem d_Machine_init_81 : decode b_Machine_init 81 = .ok (.invokespecial 51, 3) := by decide +kernel
theorem d_Machine_init_84 : decode b_Machine_init 84 = .ok (.aastore, 1) := by decide +kernel
theorem d_Machine_init_85 : decode b_Machine_init 85 = .ok (.iinc 1 1, 3) := by decide +kernel
theorem d_Machine_init_88 : decode b_Machine_init 88 = .ok (.goto (-22), 3) := by decide +kernel
theorem d_Machine_init_91 : decode b_Machine_init 91 = .ok (.iconst 0, 1) := by decide +kernel
theorem d_Machine_init_92 : decode b_Machine_init 92 = .ok (.istore_n 1, 1) := by decide +kernel
theorem d_Machine_init_93 : decode b_Machine_init 93 = .ok (.iload_n 1, 1) := by decide +kernel
theorem d_Machine_init_94 : decode b_Machine_init 94 = .ok (.iconst 3, 1) := by decide +kernel
theorem d_Machine_init_95 : decode b_Machine_init 95 = .ok (.if_icmp .ge 23, 3) := by decide +kernel
theorem d_Machine_init_98 : decode b_Machine_init 98 = .ok (.aload_n 0, 1) := by decide +kernel
theorem d_Machine_init_99 : decode b_Machine_init 99 = .ok (.getfield 40, 3) := by decide +kernel
theorem d_Machine_init_102 : decode b_Machine_init 102 = .ok (.iload_n 1, 1) := by decide +kernel
theorem d_Machine_init_103 : decode b_Machine_init 103 = .ok (.new 38, 3) := by decide +kernel
theorem d_Machine_init_106 : decode b_Machine_init 106 = .ok (.dup, 1) := by decide +kernel
theorem d_Machine_init_107 : decode b_Machine_init 107 = .ok (.iload_n 1, 1) := by decide +kernel
theorem d_Machine_init_108 : decode b_Machine_init 108 = .ok (.invokespecial 52, 3) := by decide +kernel
theorem d_Machine_init_111 : decode b_Machine_init 111 = .ok (.aastore, 1) := by decide +kernel
theorem d_Machine_init_112 : decode b_Machine_init 112 = .ok (.iinc 1 1, 3) := by decide +kernel
theorem d_Machine_init_115 : decode b_Machine_init 115 = .ok (.goto (-22), 3) := by decide +kernel
theorem d_Machine_init_118 : decode b_Machine_init 118 = .ok (.return_, 1) := by decide +kernel
def rm_Machine_init : Room := { frames := 3, cells := 163, slots := 2534, locals := 54 }
def m_Machine_init (q : Nat) (T : cn_T) : Option cn_T :=
  (m_Types_init T.1.length (cn_ad T (.inr (.inr (8, [some none, none]))))).bind fun T1 =>
  (cn_pf q 5 0 T.1.length T1).bind fun T3 =>
  (cn_pf q 5 1 T3.1.length (cn_ad T3 (.inr (.inl (.object "AllocationProfiler$Method", List.replicate 6 none))))).bind fun T5 =>
  (m_Heap_init T5.1.length (cn_ad T5 (.inr (.inr (3, [some none, none]))))).bind fun T7 =>
  (cn_pf q 5 2 T5.1.length T7).bind fun T9 =>
  (m_Ledger_init T9.1.length (cn_ad T9 (.inr (.inr (4, [some none, some none, some none, some none, some none, some none, some none, some none, some none, none, none, none]))))).bind fun T11 =>
  (cn_pf q 5 3 T9.1.length T11).bind fun T13 =>
  (cn_pf q 5 4 T13.1.length (cn_ad T13 (.inr (.inl (.object "AllocationProfiler$Strand", List.replicate 3 none))))).bind fun T15 =>
  (cn_pi q 5 5 0 T15).bind fun T17 =>
  (cn_pi q 5 6 0 T17).bind fun T19 =>
  (cn_gr q 5 1 T19).bind fun q21 =>
  (m_Method_init T19.1.length (cn_ad T19 (.inr (.inr (6, [some none, some none, some none, some none, none]))))).bind fun T23 =>
  (cn_as q21 0 6 T19.1.length T23).bind fun T25 =>
  (cn_gr q 5 1 T25).bind fun q27 =>
  (m_Method_init T25.1.length (cn_ad T25 (.inr (.inr (6, [some none, some none, some none, some none, none]))))).bind fun T29 =>
  (cn_as q27 1 6 T25.1.length T29).bind fun T31 =>
  (cn_gr q 5 1 T31).bind fun q33 =>
  (m_Method_init T31.1.length (cn_ad T31 (.inr (.inr (6, [some none, some none, some none, some none, none]))))).bind fun T35 =>
  (cn_as q33 2 6 T31.1.length T35).bind fun T37 =>
  (cn_gr q 5 1 T37).bind fun q39 =>
  (m_Method_init T37.1.length (cn_ad T37 (.inr (.inr (6, [some none, some none, some none, some none, none]))))).bind fun T41 =>
  (cn_as q39 3 6 T37.1.length T41).bind fun T43 =>
  (cn_gr q 5 1 T43).bind fun q45 =>
  (m_Method_init T43.1.length (cn_ad T43 (.inr (.inr (6, [some none, some none, some none, some none, none]))))).bind fun T47 =>
  (cn_as q45 4 6 T43.1.length T47).bind fun T49 =>
  (cn_gr q 5 1 T49).bind fun q51 =>
  (m_Method_init T49.1.length (cn_ad T49 (.inr (.inr (6, [some none, some none, some none, some none, none]))))).bind fun T53 =>
  (cn_as q51 5 6 T49.1.length T53).bind fun T55 =>
  (cn_gr q 5 4 T55).bind fun q57 =>
  (m_Strand_init0 T55.1.length (cn_ad T55 (.inr (.inr (7, [some none, none, none, none, none]))))).bind fun T59 =>
  (cn_as q57 0 7 T55.1.length T59).bind fun T61 =>
  (cn_gr q 5 4 T61).bind fun q63 =>
  (m_Strand_init1 T61.1.length (cn_ad T61 (.inr (.inr (7, [some none, none, none, none, none]))))).bind fun T65 =>
  (cn_as q63 1 7 T61.1.length T65).bind fun T67 =>
  (cn_gr q 5 4 T67).bind fun q69 =>
  (m_Strand_init2 T67.1.length (cn_ad T67 (.inr (.inr (7, [some none, none, none, none, none]))))).bind fun T71 =>
  (cn_as q69 2 7 T67.1.length T71).bind fun T73 =>
  some T73
set_option maxHeartbeats 4000000 in
set_option maxRecDepth 100000 in
theorem cc_Machine_init (l : Launch) (G : fm_G) (q : Nat) {T T' : cn_T} (h : m_Machine_init q T = some T') : cMet l y_Machine_init b_Machine_init 2 rm_Machine_init G T [.ref (G.2.2 + q)] T' 163 2534 := by
  refine cn_met (own := "AllocationProfiler$Machine") (by decide) rfl rfl (Nat.le_of_ble_eq_true rfl) (fun p e s m args below meth c C0 hnm h0 hK ls hl => ?_)
  have hx := C0.1.1
  have hb := C0.1.2.1
  have hl : lv_has ls 2 [(0, .ref (G.2.2 + q))] := hl
  unfold m_Machine_init at h
  refine lv_aload_n hx hb d_Machine_init_0 rfl (lv_at hl 0 rfl) ?_
  refine cn_obj C0 (gT_in 34 (by decide +kernel) rfl) oI oC hl.1 ⟨Nat.le_of_ble_eq_true rfl, Nat.le_of_ble_eq_true rfl⟩ d_Machine_init_1 ?_
  refine lv_aload_n hx hb d_Machine_init_4 rfl (lv_at hl 0 rfl) ?_
  refine cn_new C0 N_Machine_9 hK ⟨Nat.le_of_ble_eq_true rfl, Nat.le_of_ble_eq_true rfl⟩ d_Machine_init_5 (fun H hK => ?_)
  refine lv_dup hx hb d_Machine_init_8 rfl ?_
  obtain ⟨T1, e2, h⟩ := ob h
  refine cn_callI C0 LI_Machine_11 (As := []) (cc_Types_init l G T.1.length e2) ⟨rfl, rfl⟩ ⟨Nat.le_of_ble_eq_true rfl, Nat.le_of_ble_eq_true rfl⟩ hK rfl hl.1 rfl (Nat.le_of_ble_eq_true rfl) d_Machine_init_9 ⟨Nat.le_of_ble_eq_true rfl, Nat.le_of_ble_eq_true rfl⟩ (fun H locs hK => ?_)
  obtain ⟨T3, e4, h⟩ := ob h
  refine cn_putr C0 hnm Ff_Machine_12 rfl hK e4 d_Machine_init_12 (fun H locs hK => ?_)
  refine lv_aload_n hx hb d_Machine_init_15 rfl (lv_at hl 0 rfl) ?_
  refine lv_bipush (v := 6) hx hb d_Machine_init_16 (by decide) ?_
  refine cn_refs C0 (C := "AllocationProfiler$Method") (gT_in 49 (by decide +kernel) rfl) C0.2.1.1 (t0 := 7) rfl hK (N0 := 6) (by decide) (by decide) (by decide) ⟨Nat.le_of_ble_eq_true rfl, Nat.le_of_ble_eq_true rfl⟩ d_Machine_init_18 (fun H hK => ?_)
  obtain ⟨T5, e6, h⟩ := ob h
  refine cn_putr C0 hnm Ff_Machine_20 rfl hK e6 d_Machine_init_21 (fun H locs hK => ?_)
  refine lv_aload_n hx hb d_Machine_init_24 rfl (lv_at hl 0 rfl) ?_
  refine cn_new C0 N_Machine_24 hK ⟨Nat.le_of_ble_eq_true rfl, Nat.le_of_ble_eq_true rfl⟩ d_Machine_init_25 (fun H hK => ?_)
  refine lv_dup hx hb d_Machine_init_28 rfl ?_
  obtain ⟨T7, e8, h⟩ := ob h
  refine cn_callI C0 LI_Machine_26 (As := []) (cc_Heap_init l G T5.1.length e8) ⟨rfl, rfl⟩ ⟨Nat.le_of_ble_eq_true rfl, Nat.le_of_ble_eq_true rfl⟩ hK rfl hl.1 rfl (Nat.le_of_ble_eq_true rfl) d_Machine_init_29 ⟨Nat.le_of_ble_eq_true rfl, Nat.le_of_ble_eq_true rfl⟩ (fun H locs hK => ?_)
  obtain ⟨T9, e10, h⟩ := ob h
  refine cn_putr C0 hnm Ff_Machine_27 rfl hK e10 d_Machine_init_32 (fun H locs hK => ?_)
  refine lv_aload_n hx hb d_Machine_init_35 rfl (lv_at hl 0 rfl) ?_
  refine cn_new C0 N_Machine_31 hK ⟨Nat.le_of_ble_eq_true rfl, Nat.le_of_ble_eq_true rfl⟩ d_Machine_init_36 (fun H hK => ?_)
  refine lv_dup hx hb d_Machine_init_39 rfl ?_
  obtain ⟨T11, e12, h⟩ := ob h
  refine cn_callI C0 LI_Machine_33 (As := []) (cc_Ledger_init l G T9.1.length e12) ⟨rfl, rfl⟩ ⟨Nat.le_of_ble_eq_true rfl, Nat.le_of_ble_eq_true rfl⟩ hK rfl hl.1 rfl (Nat.le_of_ble_eq_true rfl) d_Machine_init_40 ⟨Nat.le_of_ble_eq_true rfl, Nat.le_of_ble_eq_true rfl⟩ (fun H locs hK => ?_)
  obtain ⟨T13, e14, h⟩ := ob h
  refine cn_putr C0 hnm Ff_Machine_34 rfl hK e14 d_Machine_init_43 (fun H locs hK => ?_)
  refine lv_aload_n hx hb d_Machine_init_46 rfl (lv_at hl 0 rfl) ?_
  refine lv_iconst (v := 3) hx hb d_Machine_init_47 (by decide) ?_
  refine cn_refs C0 (C := "AllocationProfiler$Strand") (gT_in 121 (by decide +kernel) rfl) C0.2.1.2.1 (t0 := 8) rfl hK (N0 := 3) (by decide) (by decide) (by decide) ⟨Nat.le_of_ble_eq_true rfl, Nat.le_of_ble_eq_true rfl⟩ d_Machine_init_48 (fun H hK => ?_)
  obtain ⟨T15, e16, h⟩ := ob h
  refine cn_putr C0 hnm Ff_Machine_40 rfl hK e16 d_Machine_init_51 (fun H locs hK => ?_)
  refine lv_aload_n hx hb d_Machine_init_54 rfl (lv_at hl 0 rfl) ?_
  refine lv_iconst (v := 0) hx hb d_Machine_init_55 (by decide) ?_
  obtain ⟨T17, e18, h⟩ := ob h
  refine cn_puti C0 Fi_Machine_44 rfl rfl hK e18 d_Machine_init_56 (fun H locs hK => ?_)
  refine lv_aload_n hx hb d_Machine_init_59 rfl (lv_at hl 0 rfl) ?_
  refine lv_iconst (v := 0) hx hb d_Machine_init_60 (by decide) ?_
  obtain ⟨T19, e20, h⟩ := ob h
  refine cn_puti C0 Fi_Machine_48 rfl rfl hK e20 d_Machine_init_61 (fun H locs hK => ?_)
  refine lv_iconst (v := 0) hx hb d_Machine_init_64 (by decide) ?_
  refine lv_istore_n (lv' := [(1, .int 0), (0, .ref (G.2.2 + q))]) hx hb d_Machine_init_65 rfl hl (by decide) rfl (fun ls hl => ?_)
  refine lv_iload_n hx hb d_Machine_init_66 rfl (lv_at hl 0 rfl) ?_
  refine lv_bipush (v := 6) hx hb d_Machine_init_67 (by decide) ?_
  refine lv_icmp_ge (tgt := 91) hx hb d_Machine_init_69 (by decide) (fun c => absurd c (by decide)) (fun _ => ?_)
  refine lv_aload_n hx hb d_Machine_init_72 rfl (lv_at hl 1 rfl) ?_
  obtain ⟨q21, e22, h⟩ := ob h
  refine cn_geti C0 Fg_Machine_20 hK e22 d_Machine_init_73 ?_
  refine lv_iload_n hx hb d_Machine_init_76 rfl (lv_at hl 0 rfl) ?_
  refine cn_new C0 N_Machine_18 hK ⟨Nat.le_of_ble_eq_true rfl, Nat.le_of_ble_eq_true rfl⟩ d_Machine_init_77 (fun H hK => ?_)
  refine lv_dup hx hb d_Machine_init_80 rfl ?_
  obtain ⟨T23, e24, h⟩ := ob h
  refine cn_callI C0 LI_Machine_51 (As := []) (cc_Method_init l G T19.1.length e24) ⟨rfl, rfl⟩ ⟨Nat.le_of_ble_eq_true rfl, Nat.le_of_ble_eq_true rfl⟩ hK rfl hl.1 rfl (Nat.le_of_ble_eq_true rfl) d_Machine_init_81 ⟨Nat.le_of_ble_eq_true rfl, Nat.le_of_ble_eq_true rfl⟩ (fun H locs hK => ?_)
  obtain ⟨T25, e26, h⟩ := ob h
  refine cn_ast C0 (i0 := 0) (by decide) hK e26 d_Machine_init_84 (fun H locs hK => ?_)
  refine lv_iinc (v := 1) (lv' := [(1, .int 1), (0, .ref (G.2.2 + q))]) hx hb d_Machine_init_85 hl (k := 0) rfl (by decide) (by decide) rfl (fun ls hl => ?_)
  refine lv_goto (tgt := 66) hx hb d_Machine_init_88 (by decide) ?_
  refine lv_iload_n hx hb d_Machine_init_66 rfl (lv_at hl 0 rfl) ?_
  refine lv_bipush (v := 6) hx hb d_Machine_init_67 (by decide) ?_
  refine lv_icmp_ge (tgt := 91) hx hb d_Machine_init_69 (by decide) (fun c => absurd c (by decide)) (fun _ => ?_)
  refine lv_aload_n hx hb d_Machine_init_72 rfl (lv_at hl 1 rfl) ?_
  obtain ⟨q27, e28, h⟩ := ob h
  refine cn_geti C0 Fg_Machine_20 hK e28 d_Machine_init_73 ?_
  refine lv_iload_n hx hb d_Machine_init_76 rfl (lv_at hl 0 rfl) ?_
  refine cn_new C0 N_Machine_18 hK ⟨Nat.le_of_ble_eq_true rfl, Nat.le_of_ble_eq_true rfl⟩ d_Machine_init_77 (fun H hK => ?_)
  refine lv_dup hx hb d_Machine_init_80 rfl ?_
  obtain ⟨T29, e30, h⟩ := ob h
  refine cn_callI C0 LI_Machine_51 (As := []) (cc_Method_init l G T25.1.length e30) ⟨rfl, rfl⟩ ⟨Nat.le_of_ble_eq_true rfl, Nat.le_of_ble_eq_true rfl⟩ hK rfl hl.1 rfl (Nat.le_of_ble_eq_true rfl) d_Machine_init_81 ⟨Nat.le_of_ble_eq_true rfl, Nat.le_of_ble_eq_true rfl⟩ (fun H locs hK => ?_)
  obtain ⟨T31, e32, h⟩ := ob h
  refine cn_ast C0 (i0 := 1) (by decide) hK e32 d_Machine_init_84 (fun H locs hK => ?_)
  refine lv_iinc (v := 2) (lv' := [(1, .int 2), (0, .ref (G.2.2 + q))]) hx hb d_Machine_init_85 hl (k := 0) rfl (by decide) (by decide) rfl (fun ls hl => ?_)
  refine lv_goto (tgt := 66) hx hb d_Machine_init_88 (by decide) ?_
  refine lv_iload_n hx hb d_Machine_init_66 rfl (lv_at hl 0 rfl) ?_
  refine lv_bipush (v := 6) hx hb d_Machine_init_67 (by decide) ?_
  refine lv_icmp_ge (tgt := 91) hx hb d_Machine_init_69 (by decide) (fun c => absurd c (by decide)) (fun _ => ?_)
  refine lv_aload_n hx hb d_Machine_init_72 rfl (lv_at hl 1 rfl) ?_
  obtain ⟨q33, e34, h⟩ := ob h
  refine cn_geti C0 Fg_Machine_20 hK e34 d_Machine_init_73 ?_
  refine lv_iload_n hx hb d_Machine_init_76 rfl (lv_at hl 0 rfl) ?_
  refine cn_new C0 N_Machine_18 hK ⟨Nat.le_of_ble_eq_true rfl, Nat.le_of_ble_eq_true rfl⟩ d_Machine_init_77 (fun H hK => ?_)
  refine lv_dup hx hb d_Machine_init_80 rfl ?_
  obtain ⟨T35, e36, h⟩ := ob h
  refine cn_callI C0 LI_Machine_51 (As := []) (cc_Method_init l G T31.1.length e36) ⟨rfl, rfl⟩ ⟨Nat.le_of_ble_eq_true rfl, Nat.le_of_ble_eq_true rfl⟩ hK rfl hl.1 rfl (Nat.le_of_ble_eq_true rfl) d_Machine_init_81 ⟨Nat.le_of_ble_eq_true rfl, Nat.le_of_ble_eq_true rfl⟩ (fun H locs hK => ?_)
  obtain ⟨T37, e38, h⟩ := ob h
  refine cn_ast C0 (i0 := 2) (by decide) hK e38 d_Machine_init_84 (fun H locs hK => ?_)
  refine lv_iinc (v := 3) (lv' := [(1, .int 3), (0, .ref (G.2.2 + q))]) hx hb d_Machine_init_85 hl (k := 0) rfl (by decide) (by decide) rfl (fun ls hl => ?_)
  refine lv_goto (tgt := 66) hx hb d_Machine_init_88 (by decide) ?_
  refine lv_iload_n hx hb d_Machine_init_66 rfl (lv_at hl 0 rfl) ?_
  refine lv_bipush (v := 6) hx hb d_Machine_init_67 (by decide) ?_
  refine lv_icmp_ge (tgt := 91) hx hb d_Machine_init_69 (by decide) (fun c => absurd c (by decide)) (fun _ => ?_)
  refine lv_aload_n hx hb d_Machine_init_72 rfl (lv_at hl 1 rfl) ?_
  obtain ⟨q39, e40, h⟩ := ob h
  refine cn_geti C0 Fg_Machine_20 hK e40 d_Machine_init_73 ?_
  refine lv_iload_n hx hb d_Machine_init_76 rfl (lv_at hl 0 rfl) ?_
  refine cn_new C0 N_Machine_18 hK ⟨Nat.le_of_ble_eq_true rfl, Nat.le_of_ble_eq_true rfl⟩ d_Machine_init_77 (fun H hK => ?_)
  refine lv_dup hx hb d_Machine_init_80 rfl ?_
  obtain ⟨T41, e42, h⟩ := ob h
  refine cn_callI C0 LI_Machine_51 (As := []) (cc_Method_init l G T37.1.length e42) ⟨rfl, rfl⟩ ⟨Nat.le_of_ble_eq_true rfl, Nat.le_of_ble_eq_true rfl⟩ hK rfl hl.1 rfl (Nat.le_of_ble_eq_true rfl) d_Machine_init_81 ⟨Nat.le_of_ble_eq_true rfl, Nat.le_of_ble_eq_true rfl⟩ (fun H locs hK => ?_)
  obtain ⟨T43, e44, h⟩ := ob h
  refine cn_ast C0 (i0 := 3) (by decide) hK e44 d_Machine_init_84 (fun H locs hK => ?_)
  refine lv_iinc (v := 4) (lv' := [(1, .int 4), (0, .ref (G.2.2 + q))]) hx hb d_Machine_init_85 hl (k := 0) rfl (by decide) (by decide) rfl (fun ls hl => ?_)
  refine lv_goto (tgt := 66) hx hb d_Machine_init_88 (by decide) ?_
  refine lv_iload_n hx hb d_Machine_init_66 rfl (lv_at hl 0 rfl) ?_
  refine lv_bipush (v := 6) hx hb d_Machine_init_67 (by decide) ?_
  refine lv_icmp_ge (tgt := 91) hx hb d_Machine_init_69 (by decide) (fun c => absurd c (by decide)) (fun _ => ?_)
  refine lv_aload_n hx hb d_Machine_init_72 rfl (lv_at hl 1 rfl) ?_
  obtain ⟨q45, e46, h⟩ := ob h
  refine cn_geti C0 Fg_Machine_20 hK e46 d_Machine_init_73 ?_
  refine lv_iload_n hx hb d_Machine_init_76 rfl (lv_at hl 0 rfl) ?_
  refine cn_new C0 N_Machine_18 hK ⟨Nat.le_of_ble_eq_true rfl, Nat.le_of_ble_eq_true rfl⟩ d_Machine_init_77 (fun H hK => ?_)
  refine lv_dup hx hb d_Machine_init_80 rfl ?_
  obtain ⟨T47, e48, h⟩ := ob h
  refine cn_callI C0 LI_Machine_51 (As := []) (cc_Method_init l G T43.1.length e48) ⟨rfl, rfl⟩ ⟨Nat.le_of_ble_eq_true rfl, Nat.le_of_ble_eq_true rfl⟩ hK rfl hl.1 rfl (Nat.le_of_ble_eq_true rfl) d_Machine_init_81 ⟨Nat.le_of_ble_eq_true rfl, Nat.le_of_ble_eq_true rfl⟩ (fun H locs hK => ?_)
  obtain ⟨T49, e50, h⟩ := ob h
  refine cn_ast C0 (i0 := 4) (by decide) hK e50 d_Machine_init_84 (fun H locs hK => ?_)
  refine lv_iinc (v := 5) (lv' := [(1, .int 5), (0, .ref (G.2.2 + q))]) hx hb d_Machine_init_85 hl (k := 0) rfl (by decide) (by decide) rfl (fun ls hl => ?_)
  refine lv_goto (tgt := 66) hx hb d_Machine_init_88 (by decide) ?_
  refine lv_iload_n hx hb d_Machine_init_66 rfl (lv_at hl 0 rfl) ?_
  refine lv_bipush (v := 6) hx hb d_Machine_init_67 (by decide) ?_
  refine lv_icmp_ge (tgt := 91) hx hb d_Machine_init_69 (by decide) (fun c => absurd c (by decide)) (fun _ => ?_)
  refine lv_aload_n hx hb d_Machine_init_72 rfl (lv_at hl 1 rfl) ?_
  obtain ⟨q51, e52, h⟩ := ob h
  refine cn_geti C0 Fg_Machine_20 hK e52 d_Machine_init_73 ?_
  refine lv_iload_n hx hb d_Machine_init_76 rfl (lv_at hl 0 rfl) ?_
  refine cn_new C0 N_Machine_18 hK ⟨Nat.le_of_ble_eq_true rfl, Nat.le_of_ble_eq_true rfl⟩ d_Machine_init_77 (fun H hK => ?_)
  refine lv_dup hx hb d_Machine_init_80 rfl ?_
  obtain ⟨T53, e54, h⟩ := ob h
  refine cn_callI C0 LI_Machine_51 (As := []) (cc_Method_init l G T49.1.length e54) ⟨rfl, rfl⟩ ⟨Nat.le_of_ble_eq_true rfl, Nat.le_of_ble_eq_true rfl⟩ hK rfl hl.1 rfl (Nat.le_of_ble_eq_true rfl) d_Machine_init_81 ⟨Nat.le_of_ble_eq_true rfl, Nat.le_of_ble_eq_true rfl⟩ (fun H locs hK => ?_)
  obtain ⟨T55, e56, h⟩ := ob h
  refine cn_ast C0 (i0 := 5) (by decide) hK e56 d_Machine_init_84 (fun H locs hK => ?_)
  refine lv_iinc (v := 6) (lv' := [(1, .int 6), (0, .ref (G.2.2 + q))]) hx hb d_Machine_init_85 hl (k := 0) rfl (by decide) (by decide) rfl (fun ls hl => ?_)
  refine lv_goto (tgt := 66) hx hb d_Machine_init_88 (by decide) ?_
  refine lv_iload_n hx hb d_Machine_init_66 rfl (lv_at hl 0 rfl) ?_
  refine lv_bipush (v := 6) hx hb d_Machine_init_67 (by decide) ?_
  refine lv_icmp_ge (tgt := 91) hx hb d_Machine_init_69 (by decide) (fun _ => ?_) (fun c => absurd (by decide) c)
  refine lv_iconst (v := 0) hx hb d_Machine_init_91 (by decide) ?_
  refine lv_istore_n (lv' := [(1, .int 0), (0, .ref (G.2.2 + q))]) hx hb d_Machine_init_92 rfl hl (by decide) rfl (fun ls hl => ?_)
  refine lv_iload_n hx hb d_Machine_init_93 rfl (lv_at hl 0 rfl) ?_
  refine lv_iconst (v := 3) hx hb d_Machine_init_94 (by decide) ?_
  refine lv_icmp_ge (tgt := 118) hx hb d_Machine_init_95 (by decide) (fun c => absurd c (by decide)) (fun _ => ?_)
  refine lv_aload_n hx hb d_Machine_init_98 rfl (lv_at hl 1 rfl) ?_
  obtain ⟨q57, e58, h⟩ := ob h
  refine cn_geti C0 Fg_Machine_40 hK e58 d_Machine_init_99 ?_
  refine lv_iload_n hx hb d_Machine_init_102 rfl (lv_at hl 0 rfl) ?_
  refine cn_new C0 N_Machine_38 hK ⟨Nat.le_of_ble_eq_true rfl, Nat.le_of_ble_eq_true rfl⟩ d_Machine_init_103 (fun H hK => ?_)
  refine lv_dup hx hb d_Machine_init_106 rfl ?_
  refine lv_iload_n hx hb d_Machine_init_107 rfl (lv_at hl 0 rfl) ?_
  obtain ⟨T59, e60, h⟩ := ob h
  refine cn_callI C0 LI_Machine_52 (As := [.int 0]) (cc_Strand_init0 l G T55.1.length e60) ⟨rfl, rfl⟩ ⟨Nat.le_of_ble_eq_true rfl, Nat.le_of_ble_eq_true rfl⟩ hK rfl hl.1 rfl (Nat.le_of_ble_eq_true rfl) d_Machine_init_108 ⟨Nat.le_of_ble_eq_true rfl, Nat.le_of_ble_eq_true rfl⟩ (fun H locs hK => ?_)
  obtain ⟨T61, e62, h⟩ := ob h
  refine cn_ast C0 (i0 := 0) (by decide) hK e62 d_Machine_init_111 (fun H locs hK => ?_)
  refine lv_iinc (v := 1) (lv' := [(1, .int 1), (0, .ref (G.2.2 + q))]) hx hb d_Machine_init_112 hl (k := 0) rfl (by decide) (by decide) rfl (fun ls hl => ?_)
  refine lv_goto (tgt := 93) hx hb d_Machine_init_115 (by decide) ?_
  refine lv_iload_n hx hb d_Machine_init_93 rfl (lv_at hl 0 rfl) ?_
  refine lv_iconst (v := 3) hx hb d_Machine_init_94 (by decide) ?_
  refine lv_icmp_ge (tgt := 118) hx hb d_Machine_init_95 (by decide) (fun c => absurd c (by decide)) (fun _ => ?_)
  refine lv_aload_n hx hb d_Machine_init_98 rfl (lv_at hl 1 rfl) ?_
  obtain ⟨q63, e64, h⟩ := ob h
  refine cn_geti C0 Fg_Machine_40 hK e64 d_Machine_init_99 ?_
  refine lv_iload_n hx hb d_Machine_init_102 rfl (lv_at hl 0 rfl) ?_
  refine cn_new C0 N_Machine_38 hK ⟨Nat.le_of_ble_eq_true rfl, Nat.le_of_ble_eq_true rfl⟩ d_Machine_init_103 (fun H hK => ?_)
  refine lv_dup hx hb d_Machine_init_106 rfl ?_
  refine lv_iload_n hx hb d_Machine_init_107 rfl (lv_at hl 0 rfl) ?_
  obtain ⟨T65, e66, h⟩ := ob h
  refine cn_callI C0 LI_Machine_52 (As := [.int 1]) (cc_Strand_init1 l G T61.1.length e66) ⟨rfl, rfl⟩ ⟨Nat.le_of_ble_eq_true rfl, Nat.le_of_ble_eq_true rfl⟩ hK rfl hl.1 rfl (Nat.le_of_ble_eq_true rfl) d_Machine_init_108 ⟨Nat.le_of_ble_eq_true rfl, Nat.le_of_ble_eq_true rfl⟩ (fun H locs hK => ?_)
  obtain ⟨T67, e68, h⟩ := ob h
  refine cn_ast C0 (i0 := 1) (by decide) hK e68 d_Machine_init_111 (fun H locs hK => ?_)
  refine lv_iinc (v := 2) (lv' := [(1, .int 2), (0, .ref (G.2.2 + q))]) hx hb d_Machine_init_112 hl (k := 0) rfl (by decide) (by decide) rfl (fun ls hl => ?_)
  refine lv_goto (tgt := 93) hx hb d_Machine_init_115 (by decide) ?_
  refine lv_iload_n hx hb d_Machine_init_93 rfl (lv_at hl 0 rfl) ?_
  refine lv_iconst (v := 3) hx hb d_Machine_init_94 (by decide) ?_
  refine lv_icmp_ge (tgt := 118) hx hb d_Machine_init_95 (by decide) (fun c => absurd c (by decide)) (fun _ => ?_)
  refine lv_aload_n hx hb d_Machine_init_98 rfl (lv_at hl 1 rfl) ?_
  obtain ⟨q69, e70, h⟩ := ob h
  refine cn_geti C0 Fg_Machine_40 hK e70 d_Machine_init_99 ?_
  refine lv_iload_n hx hb d_Machine_init_102 rfl (lv_at hl 0 rfl) ?_
  refine cn_new C0 N_Machine_38 hK ⟨Nat.le_of_ble_eq_true rfl, Nat.le_of_ble_eq_true rfl⟩ d_Machine_init_103 (fun H hK => ?_)
  refine lv_dup hx hb d_Machine_init_106 rfl ?_
  refine lv_iload_n hx hb d_Machine_init_107 rfl (lv_at hl 0 rfl) ?_
  obtain ⟨T71, e72, h⟩ := ob h
  refine cn_callI C0 LI_Machine_52 (As := [.int 2]) (cc_Strand_init2 l G T67.1.length e72) ⟨rfl, rfl⟩ ⟨Nat.le_of_ble_eq_true rfl, Nat.le_of_ble_eq_true rfl⟩ hK rfl hl.1 rfl (Nat.le_of_ble_eq_true rfl) d_Machine_init_108 ⟨Nat.le_of_ble_eq_true rfl, Nat.le_of_ble_eq_true rfl⟩ (fun H locs hK => ?_)
  obtain ⟨T73, e74, h⟩ := ob h
  refine cn_ast C0 (i0 := 2) (by decide) hK e74 d_Machine_init_111 (fun H locs hK => ?_)
  refine lv_iinc (v := 3) (lv' := [(1, .int 3), (0, .ref (G.2.2 + q))]) hx hb d_Machine_init_112 hl (k := 0) rfl (by decide) (by decide) rfl (fun ls hl => ?_)
  refine lv_goto (tgt := 93) hx hb d_Machine_init_115 (by decide) ?_
  refine lv_iload_n hx hb d_Machine_init_93 rfl (lv_at hl 0 rfl) ?_
  refine lv_iconst (v := 3) hx hb d_Machine_init_94 (by decide) ?_
  refine lv_icmp_ge (tgt := 118) hx hb d_Machine_init_95 (by decide) (fun _ => ?_) (fun c => absurd (by decide) c)
  cases h
  exact cn_ret C0 h0 hK d_Machine_init_118
theorem d_AP_init_0 : decode b_AP_init 0 = .ok (.aload_n 0, 1) := by decide +kernel
theorem d_AP_init_1 : decode b_AP_init 1 = .ok (.invokespecial 3, 3) := by decide +kernel
theorem d_AP_init_4 : decode b_AP_init 4 = .ok (.aload_n 0, 1) := by decide +kernel
theorem d_AP_init_5 : decode b_AP_init 5 = .ok (.new 9, 3) := by decide +kernel
theorem d_AP_init_8 : decode b_AP_init 8 = .ok (.dup, 1) := by decide +kernel
theorem d_AP_init_9 : decode b_AP_init 9 = .ok (.invokespecial 11, 3) := by decide +kernel
theorem d_AP_init_12 : decode b_AP_init 12 = .ok (.putfield 12, 3) := by decide +kernel
theorem d_AP_init_15 : decode b_AP_init 15 = .ok (.aload_n 0, 1) := by decide +kernel
theorem d_AP_init_16 : decode b_AP_init 16 = .ok (.aload_n 0, 1) := by decide +kernel
theorem d_AP_init_17 : decode b_AP_init 17 = .ok (.getfield 12, 3) := by decide +kernel
theorem d_AP_init_20 : decode b_AP_init 20 = .ok (.getfield 16, 3) := by decide +kernel
theorem d_AP_init_23 : decode b_AP_init 23 = .ok (.putfield 20, 3) := by decide +kernel
theorem d_AP_init_26 : decode b_AP_init 26 = .ok (.aload_n 0, 1) := by decide +kernel
theorem d_AP_init_27 : decode b_AP_init 27 = .ok (.aload_n 0, 1) := by decide +kernel
theorem d_AP_init_28 : decode b_AP_init 28 = .ok (.getfield 12, 3) := by decide +kernel
theorem d_AP_init_31 : decode b_AP_init 31 = .ok (.getfield 21, 3) := by decide +kernel
theorem d_AP_init_34 : decode b_AP_init 34 = .ok (.putfield 25, 3) := by decide +kernel
theorem d_AP_init_37 : decode b_AP_init 37 = .ok (.aload_n 0, 1) := by decide +kernel
theorem d_AP_init_38 : decode b_AP_init 38 = .ok (.aload_n 0, 1) := by decide +kernel
theorem d_AP_init_39 : decode b_AP_init 39 = .ok (.getfield 12, 3) := by decide +kernel
theorem d_AP_init_42 : decode b_AP_init 42 = .ok (.getfield 26, 3) := by decide +kernel
theorem d_AP_init_45 : decode b_AP_init 45 = .ok (.putfield 30, 3) := by decide +kernel
theorem d_AP_init_48 : decode b_AP_init 48 = .ok (.aload_n 0, 1) := by decide +kernel
theorem d_AP_init_49 : decode b_AP_init 49 = .ok (.aload_n 0, 1) := by decide +kernel
theorem d_AP_init_50 : decode b_AP_init 50 = .ok (.getfield 12, 3) := by decide +kernel
theorem d_AP_init_53 : decode b_AP_init 53 = .ok (.getfield 31, 3) := by decide +kernel
theorem d_AP_init_56 : decode b_AP_init 56 = .ok (.putfield 35, 3) := by decide +kernel
theorem d_AP_init_59 : decode b_AP_init 59 = .ok (.aload_n 0, 1) := by decide +kernel
theorem d_AP_init_60 : decode b_AP_init 60 = .ok (.new 36, 3) := by decide +kernel
theorem d_AP_init_63 : decode b_AP_init 63 = .ok (.dup, 1) := by decide +kernel
theorem d_AP_init_64 : decode b_AP_init 64 = .ok (.bipush 24, 2) := by decide +kernel
theorem d_AP_init_66 : decode b_AP_init 66 = .ok (.invokespecial 38, 3) := by decide +kernel
theorem d_AP_init_69 : decode b_AP_init 69 = .ok (.putfield 41, 3) := by decide +kernel
theorem d_AP_init_72 : decode b_AP_init 72 = .ok (.aload_n 0, 1) := by decide +kernel
theorem d_AP_init_73 : decode b_AP_init 73 = .ok (.new 45, 3) := by decide +kernel
theorem d_AP_init_76 : decode b_AP_init 76 = .ok (.dup, 1) := by decide +kernel
theorem d_AP_init_77 : decode b_AP_init 77 = .ok (.invokespecial 47, 3) := by decide +kernel
theorem d_AP_init_80 : decode b_AP_init 80 = .ok (.putfield 48, 3) := by decide +kernel
theorem d_AP_init_83 : decode b_AP_init 83 = .ok (.aload_n 0, 1) := by decide +kernel
theorem d_AP_init_84 : decode b_AP_init 84 = .ok (.iconst 0, 1) := by decide +kernel
theorem d_AP_init_85 : decode b_AP_init 85 = .ok (.putfield 52, 3) := by decide +kernel
theorem d_AP_init_88 : decode b_AP_init 88 = .ok (.aload_n 0, 1) := by decide +kernel
theorem d_AP_init_89 : decode b_AP_init 89 = .ok (.iconst (-1), 1) := by decide +kernel
theorem d_AP_init_90 : decode b_AP_init 90 = .ok (.putfield 56, 3) := by decide +kernel
theorem d_AP_init_93 : decode b_AP_init 93 = .ok (.aload_n 0, 1) := by decide +kernel
theorem d_AP_init_94 : decode b_AP_init 94 = .ok (.iconst 0, 1) := by decide +kernel
theorem d_AP_init_95 : decode b_AP_init 95 = .ok (.putfield 59, 3) := by decide +kernel
theorem d_AP_init_98 : decode b_AP_init 98 = .ok (.return_, 1) := by decide +kernel
def rm_AP_init : Room := { frames := 4, cells := 173, slots := 2797, locals := 75 }
def m_AP_init (q : Nat) (T : cn_T) : Option cn_T :=
  (m_Machine_init T.1.length (cn_ad T (.inr (.inr (5, [some none, some none, some none, some none, some none, none, none]))))).bind fun T1 =>
  (cn_pf q 9 0 T.1.length T1).bind fun T3 =>
  (cn_gr q 9 0 T3).bind fun q5 =>
  (cn_gr q5 5 0 T3).bind fun q7 =>
  (cn_pf q 9 1 q7 T3).bind fun T9 =>
  (cn_gr q 9 0 T9).bind fun q11 =>
  (cn_gr q11 5 1 T9).bind fun q13 =>
  (cn_pf q 9 2 q13 T9).bind fun T15 =>
  (cn_gr q 9 0 T15).bind fun q17 =>
  (cn_gr q17 5 2 T15).bind fun q19 =>
  (cn_pf q 9 3 q19 T15).bind fun T21 =>
  (cn_gr q 9 0 T21).bind fun q23 =>
  (cn_gr q23 5 3 T21).bind fun q25 =>
  (cn_pf q 9 4 q25 T21).bind fun T27 =>
  (m_Code_init24 T27.1.length (cn_ad T27 (.inr (.inr (1, [some none, some none, some none, some none, some none, none, none]))))).bind fun T29 =>
  (cn_pf q 9 5 T27.1.length T29).bind fun T31 =>
  (m_Checker_init T31.1.length (cn_ad T31 (.inr (.inr (0, [some none, some none, none]))))).bind fun T33 =>
  (cn_pf q 9 6 T31.1.length T33).bind fun T35 =>
  (cn_pi q 9 7 0 T35).bind fun T37 =>
  (cn_pi q 9 8 (-1) T37).bind fun T39 =>
  (cn_pi q 9 9 0 T39).bind fun T41 =>
  some T41
set_option maxHeartbeats 4000000 in
set_option maxRecDepth 100000 in
theorem cc_AP_init (l : Launch) (G : fm_G) (q : Nat) {T T' : cn_T} (h : m_AP_init q T = some T') : cMet l y_AP_init b_AP_init 1 rm_AP_init G T [.ref (G.2.2 + q)] T' 173 2797 := by
  refine cn_met (own := "AllocationProfiler") (by decide) rfl rfl (Nat.le_of_ble_eq_true rfl) (fun p e s m args below meth c C0 hnm h0 hK ls hl => ?_)
  have hx := C0.1.1
  have hb := C0.1.2.1
  have hl : lv_has ls 1 [(0, .ref (G.2.2 + q))] := hl
  unfold m_AP_init at h
  refine lv_aload_n hx hb d_AP_init_0 rfl (lv_at hl 0 rfl) ?_
  refine cn_obj C0 (gT_in 26 (by decide +kernel) rfl) oI oC hl.1 ⟨Nat.le_of_ble_eq_true rfl, Nat.le_of_ble_eq_true rfl⟩ d_AP_init_1 ?_
  refine lv_aload_n hx hb d_AP_init_4 rfl (lv_at hl 0 rfl) ?_
  refine cn_new C0 N_AP_9 hK ⟨Nat.le_of_ble_eq_true rfl, Nat.le_of_ble_eq_true rfl⟩ d_AP_init_5 (fun H hK => ?_)
  refine lv_dup hx hb d_AP_init_8 rfl ?_
  obtain ⟨T1, e2, h⟩ := ob h
  refine cn_callI C0 LI_AP_11 (As := []) (cc_Machine_init l G T.1.length e2) ⟨rfl, rfl⟩ ⟨Nat.le_of_ble_eq_true rfl, Nat.le_of_ble_eq_true rfl⟩ hK rfl hl.1 rfl (Nat.le_of_ble_eq_true rfl) d_AP_init_9 ⟨Nat.le_of_ble_eq_true rfl, Nat.le_of_ble_eq_true rfl⟩ (fun H locs hK => ?_)
  obtain ⟨T3, e4, h⟩ := ob h
  refine cn_putr C0 hnm Ff_AP_12 rfl hK e4 d_AP_init_12 (fun H locs hK => ?_)
  refine lv_aload_n hx hb d_AP_init_15 rfl (lv_at hl 0 rfl) ?_
  refine lv_aload_n hx hb d_AP_init_16 rfl (lv_at hl 0 rfl) ?_
  obtain ⟨q5, e6, h⟩ := ob h
  refine cn_geti C0 Fg_AP_12 hK e6 d_AP_init_17 ?_
  obtain ⟨q7, e8, h⟩ := ob h
  refine cn_geti C0 Fg_AP_16 hK e8 d_AP_init_20 ?_
  obtain ⟨T9, e10, h⟩ := ob h
  refine cn_putr C0 hnm Ff_AP_20 rfl hK e10 d_AP_init_23 (fun H locs hK => ?_)
  refine lv_aload_n hx hb d_AP_init_26 rfl (lv_at hl 0 rfl) ?_
  refine lv_aload_n hx hb d_AP_init_27 rfl (lv_at hl 0 rfl) ?_
  obtain ⟨q11, e12, h⟩ := ob h
  refine cn_geti C0 Fg_AP_12 hK e12 d_AP_init_28 ?_
  obtain ⟨q13, e14, h⟩ := ob h
  refine cn_geti C0 Fg_AP_21 hK e14 d_AP_init_31 ?_
  obtain ⟨T15, e16, h⟩ := ob h
  refine cn_putr C0 hnm Ff_AP_25 rfl hK e16 d_AP_init_34 (fun H locs hK => ?_)
  refine lv_aload_n hx hb d_AP_init_37 rfl (lv_at hl 0 rfl) ?_
  refine lv_aload_n hx hb d_AP_init_38 rfl (lv_at hl 0 rfl) ?_
  obtain ⟨q17, e18, h⟩ := ob h
  refine cn_geti C0 Fg_AP_12 hK e18 d_AP_init_39 ?_
  obtain ⟨q19, e20, h⟩ := ob h
  refine cn_geti C0 Fg_AP_26 hK e20 d_AP_init_42 ?_
  obtain ⟨T21, e22, h⟩ := ob h
  refine cn_putr C0 hnm Ff_AP_30 rfl hK e22 d_AP_init_45 (fun H locs hK => ?_)
  refine lv_aload_n hx hb d_AP_init_48 rfl (lv_at hl 0 rfl) ?_
  refine lv_aload_n hx hb d_AP_init_49 rfl (lv_at hl 0 rfl) ?_
  obtain ⟨q23, e24, h⟩ := ob h
  refine cn_geti C0 Fg_AP_12 hK e24 d_AP_init_50 ?_
  obtain ⟨q25, e26, h⟩ := ob h
  refine cn_geti C0 Fg_AP_31 hK e26 d_AP_init_53 ?_
  obtain ⟨T27, e28, h⟩ := ob h
  refine cn_putr C0 hnm Ff_AP_35 rfl hK e28 d_AP_init_56 (fun H locs hK => ?_)
  refine lv_aload_n hx hb d_AP_init_59 rfl (lv_at hl 0 rfl) ?_
  refine cn_new C0 N_AP_36 hK ⟨Nat.le_of_ble_eq_true rfl, Nat.le_of_ble_eq_true rfl⟩ d_AP_init_60 (fun H hK => ?_)
  refine lv_dup hx hb d_AP_init_63 rfl ?_
  refine lv_bipush (v := 24) hx hb d_AP_init_64 (by decide) ?_
  obtain ⟨T29, e30, h⟩ := ob h
  refine cn_callI C0 LI_AP_38 (As := [.int 24]) (cc_Code_init24 l G T27.1.length e30) ⟨rfl, rfl⟩ ⟨Nat.le_of_ble_eq_true rfl, Nat.le_of_ble_eq_true rfl⟩ hK rfl hl.1 rfl (Nat.le_of_ble_eq_true rfl) d_AP_init_66 ⟨Nat.le_of_ble_eq_true rfl, Nat.le_of_ble_eq_true rfl⟩ (fun H locs hK => ?_)
  obtain ⟨T31, e32, h⟩ := ob h
  refine cn_putr C0 hnm Ff_AP_41 rfl hK e32 d_AP_init_69 (fun H locs hK => ?_)
  refine lv_aload_n hx hb d_AP_init_72 rfl (lv_at hl 0 rfl) ?_
  refine cn_new C0 N_AP_45 hK ⟨Nat.le_of_ble_eq_true rfl, Nat.le_of_ble_eq_true rfl⟩ d_AP_init_73 (fun H hK => ?_)
  refine lv_dup hx hb d_AP_init_76 rfl ?_
  obtain ⟨T33, e34, h⟩ := ob h
  refine cn_callI C0 LI_AP_47 (As := []) (cc_Checker_init l G T31.1.length e34) ⟨rfl, rfl⟩ ⟨Nat.le_of_ble_eq_true rfl, Nat.le_of_ble_eq_true rfl⟩ hK rfl hl.1 rfl (Nat.le_of_ble_eq_true rfl) d_AP_init_77 ⟨Nat.le_of_ble_eq_true rfl, Nat.le_of_ble_eq_true rfl⟩ (fun H locs hK => ?_)
  obtain ⟨T35, e36, h⟩ := ob h
  refine cn_putr C0 hnm Ff_AP_48 rfl hK e36 d_AP_init_80 (fun H locs hK => ?_)
  refine lv_aload_n hx hb d_AP_init_83 rfl (lv_at hl 0 rfl) ?_
  refine lv_iconst (v := 0) hx hb d_AP_init_84 (by decide) ?_
  obtain ⟨T37, e38, h⟩ := ob h
  refine cn_puti C0 Fi_AP_52 rfl rfl hK e38 d_AP_init_85 (fun H locs hK => ?_)
  refine lv_aload_n hx hb d_AP_init_88 rfl (lv_at hl 0 rfl) ?_
  refine lv_iconst (v := (-1)) hx hb d_AP_init_89 (by decide) ?_
  obtain ⟨T39, e40, h⟩ := ob h
  refine cn_puti C0 Fi_AP_56 rfl rfl hK e40 d_AP_init_90 (fun H locs hK => ?_)
  refine lv_aload_n hx hb d_AP_init_93 rfl (lv_at hl 0 rfl) ?_
  refine lv_iconst (v := 0) hx hb d_AP_init_94 (by decide) ?_
  obtain ⟨T41, e42, h⟩ := ob h
  refine cn_puti C0 Fi_AP_59 rfl rfl hK e42 d_AP_init_95 (fun H locs hK => ?_)
  cases h
  exact cn_ret C0 h0 hK d_AP_init_98
theorem d_Mo_init_0 : decode b_Mo_init 0 = .ok (.aload_n 0, 1) := by decide +kernel
theorem d_Mo_init_1 : decode b_Mo_init 1 = .ok (.invokespecial 1, 3) := by decide +kernel
theorem d_Mo_init_4 : decode b_Mo_init 4 = .ok (.aload_n 0, 1) := by decide +kernel
theorem d_Mo_init_5 : decode b_Mo_init 5 = .ok (.bipush 6, 2) := by decide +kernel
theorem d_Mo_init_7 : decode b_Mo_init 7 = .ok (.newarray .int, 2) := by decide +kernel
theorem d_Mo_init_9 : decode b_Mo_init 9 = .ok (.putfield 7, 3) := by decide +kernel
theorem d_Mo_init_12 : decode b_Mo_init 12 = .ok (.aload_n 0, 1) := by decide +kernel
theorem d_Mo_init_13 : decode b_Mo_init 13 = .ok (.bipush 6, 2) := by decide +kernel
theorem d_Mo_init_15 : decode b_Mo_init 15 = .ok (.newarray .int, 2) := by decide +kernel
theorem d_Mo_init_17 : decode b_Mo_init 17 = .ok (.putfield 13, 3) := by decide +kernel
theorem d_Mo_init_20 : decode b_Mo_init 20 = .ok (.aload_n 0, 1) := by decide +kernel
theorem d_Mo_init_21 : decode b_Mo_init 21 = .ok (.bipush 24, 2) := by decide +kernel
theorem d_Mo_init_23 : decode b_Mo_init 23 = .ok (.newarray .int, 2) := by decide +kernel
theorem d_Mo_init_25 : decode b_Mo_init 25 = .ok (.putfield 16, 3) := by decide +kernel
theorem d_Mo_init_28 : decode b_Mo_init 28 = .ok (.aload_n 0, 1) := by decide +kernel
theorem d_Mo_init_29 : decode b_Mo_init 29 = .ok (.bipush 24, 2) := by decide +kernel
theorem d_Mo_init_31 : decode b_Mo_init 31 = .ok (.newarray .int, 2) := by decide +kernel
theorem d_Mo_init_33 : decode b_Mo_init 33 = .ok (.putfield 19, 3) := by decide +kernel
theorem d_Mo_init_36 : decode b_Mo_init 36 = .ok (.aload_n 0, 1) := by decide +kernel
theorem d_Mo_init_37 : decode b_Mo_init 37 = .ok (.bipush 6, 2) := by decide +kernel
theorem d_Mo_init_39 : decode b_Mo_init 39 = .ok (.newarray .int, 2) := by decide +kernel
theorem d_Mo_init_41 : decode b_Mo_init 41 = .ok (.putfield 22, 3) := by decide +kernel
theorem d_Mo_init_44 : decode b_Mo_init 44 = .ok (.aload_n 0, 1) := by decide +kernel
theorem d_Mo_init_45 : decode b_Mo_init 45 = .ok (.iconst (-1), 1) := by decide +kernel
theorem d_Mo_init_46 : decode b_Mo_init 46 = .ok (.putfield 25, 3) := by decide +kernel
theorem d_Mo_init_49 : decode b_Mo_init 49 = .ok (.aload_n 0, 1) := by decide +kernel
theorem d_Mo_init_50 : decode b_Mo_init 50 = .ok (.bipush 6, 2) := by decide +kernel
theorem d_Mo_init_52 : decode b_Mo_init 52 = .ok (.newarray .boolean, 2) := by decide +kernel
theorem d_Mo_init_54 : decode b_Mo_init 54 = .ok (.putfield 29, 3) := by decide +kernel
theorem d_Mo_init_57 : decode b_Mo_init 57 = .ok (.aload_n 0, 1) := by decide +kernel
theorem d_Mo_init_58 : decode b_Mo_init 58 = .ok (.bipush 6, 2) := by decide +kernel
theorem d_Mo_init_60 : decode b_Mo_init 60 = .ok (.newarray .int, 2) := by decide +kernel
theorem d_Mo_init_62 : decode b_Mo_init 62 = .ok (.putfield 33, 3) := by decide +kernel
theorem d_Mo_init_65 : decode b_Mo_init 65 = .ok (.aload_n 0, 1) := by decide +kernel
theorem d_Mo_init_66 : decode b_Mo_init 66 = .ok (.sipush 144, 3) := by decide +kernel
theorem d_Mo_init_69 : decode b_Mo_init 69 = .ok (.newarray .int, 2) := by decide +kernel
theorem d_Mo_init_71 : decode b_Mo_init 71 = .ok (.putfield 36, 3) := by decide +kernel
theorem d_Mo_init_74 : decode b_Mo_init 74 = .ok (.aload_n 0, 1) := by decide +kernel
theorem d_Mo_init_75 : decode b_Mo_init 75 = .ok (.sipush 144, 3) := by decide +kernel
theorem d_Mo_init_78 : decode b_Mo_init 78 = .ok (.newarray .int, 2) := by decide +kernel
theorem d_Mo_init_80 : decode b_Mo_init 80 = .ok (.putfield 39, 3) := by decide +kernel
theorem d_Mo_init_83 : decode b_Mo_init 83 = .ok (.aload_n 0, 1) := by decide +kernel
theorem d_Mo_init_84 : decode b_Mo_init 84 = .ok (.bipush 6, 2) := by decide +kernel
theorem d_Mo_init_86 : decode b_Mo_init 86 = .ok (.newarray .int, 2) := by decide +kernel
theorem d_Mo_init_88 : decode b_Mo_init 88 = .ok (.putfield 42, 3) := by decide +kernel
theorem d_Mo_init_91 : decode b_Mo_init 91 = .ok (.aload_n 0, 1) := by decide +kernel
theorem d_Mo_init_92 : decode b_Mo_init 92 = .ok (.bipush 36, 2) := by decide +kernel
theorem d_Mo_init_94 : decode b_Mo_init 94 = .ok (.newarray .int, 2) := by decide +kernel
theorem d_Mo_init_96 : decode b_Mo_init 96 = .ok (.putfield 45, 3) := by decide +kernel
theorem d_Mo_init_99 : decode b_Mo_init 99 = .ok (.aload_n 0, 1) := by decide +kernel
theorem d_Mo_init_100 : decode b_Mo_init 100 = .ok (.bipush 6, 2) := by decide +kernel
theorem d_Mo_init_102 : decode b_Mo_init 102 = .ok (.newarray .int, 2) := by decide +kernel
theorem d_Mo_init_104 : decode b_Mo_init 104 = .ok (.putfield 48, 3) := by decide +kernel
theorem d_Mo_init_107 : decode b_Mo_init 107 = .ok (.aload_n 0, 1) := by decide +kernel
theorem d_Mo_init_108 : decode b_Mo_init 108 = .ok (.sipush 168, 3) := by decide +kernel
theorem d_Mo_init_111 : decode b_Mo_init 111 = .ok (.newarray .int, 2) := by decide +kernel
theorem d_Mo_init_113 : decode b_Mo_init 113 = .ok (.putfield 51, 3) := by decide +kernel
theorem d_Mo_init_116 : decode b_Mo_init 116 = .ok (.aload_n 0, 1) := by decide +kernel
theorem d_Mo_init_117 : decode b_Mo_init 117 = .ok (.sipush 168, 3) := by decide +kernel
theorem d_Mo_init_120 : decode b_Mo_init 120 = .ok (.newarray .int, 2) := by decide +kernel
theorem d_Mo_init_122 : decode b_Mo_init 122 = .ok (.putfield 54, 3) := by decide +kernel
theorem d_Mo_init_125 : decode b_Mo_init 125 = .ok (.aload_n 0, 1) := by decide +kernel
theorem d_Mo_init_126 : decode b_Mo_init 126 = .ok (.bipush 36, 2) := by decide +kernel
theorem d_Mo_init_128 : decode b_Mo_init 128 = .ok (.newarray .int, 2) := by decide +kernel
theorem d_Mo_init_130 : decode b_Mo_init 130 = .ok (.putfield 57, 3) := by decide +kernel
theorem d_Mo_init_133 : decode b_Mo_init 133 = .ok (.aload_n 0, 1) := by decide +kernel
theorem d_Mo_init_134 : decode b_Mo_init 134 = .ok (.sipush 144, 3) := by decide +kernel
theorem d_Mo_init_137 : decode b_Mo_init 137 = .ok (.newarray .int, 2) := by decide +kernel
theorem d_Mo_init_139 : decode b_Mo_init 139 = .ok (.putfield 60, 3) := by decide +kernel
theorem d_Mo_init_142 : decode b_Mo_init 142 = .ok (.aload_n 0, 1) := by decide +kernel
theorem d_Mo_init_143 : decode b_Mo_init 143 = .ok (.sipush 250, 3) := by decide +kernel
theorem d_Mo_init_146 : decode b_Mo_init 146 = .ok (.newarray .boolean, 2) := by decide +kernel
theorem d_Mo_init_148 : decode b_Mo_init 148 = .ok (.putfield 63, 3) := by decide +kernel
theorem d_Mo_init_151 : decode b_Mo_init 151 = .ok (.aload_n 0, 1) := by decide +kernel
theorem d_Mo_init_152 : decode b_Mo_init 152 = .ok (.iconst 3, 1) := by decide +kernel
theorem d_Mo_init_153 : decode b_Mo_init 153 = .ok (.newarray .int, 2) := by decide +kernel
theorem d_Mo_init_155 : decode b_Mo_init 155 = .ok (.putfield 66, 3) := by decide +kernel
theorem d_Mo_init_158 : decode b_Mo_init 158 = .ok (.aload_n 0, 1) := by decide +kernel
theorem d_Mo_init_159 : decode b_Mo_init 159 = .ok (.iconst 3, 1) := by decide +kernel
theorem d_Mo_init_160 : decode b_Mo_init 160 = .ok (.newarray .int, 2) := by decide +kernel
theorem d_Mo_init_162 : decode b_Mo_init 162 = .ok (.putfield 69, 3) := by decide +kernel
theorem d_Mo_init_165 : decode b_Mo_init 165 = .ok (.aload_n 0, 1) := by decide +kernel
theorem d_Mo_init_166 : decode b_Mo_init 166 = .ok (.iconst 3, 1) := by decide +kernel
theorem d_Mo_init_167 : decode b_Mo_init 167 = .ok (.newarray .int, 2) := by decide +kernel
theorem d_Mo_init_169 : decode b_Mo_init 169 = .ok (.putfield 72, 3) := by decide +kernel
theorem d_Mo_init_172 : decode b_Mo_init 172 = .ok (.aload_n 0, 1) := by decide +kernel
theorem d_Mo_init_173 : decode b_Mo_init 173 = .ok (.bipush 15, 2) := by decide +kernel
theorem d_Mo_init_175 : decode b_Mo_init 175 = .ok (.newarray .int, 2) := by decide +kernel
theorem d_Mo_init_177 : decode b_Mo_init 177 = .ok (.putfield 75, 3) := by decide +kernel
theorem d_Mo_init_180 : decode b_Mo_init 180 = .ok (.aload_n 0, 1) := by decide +kernel
theorem d_Mo_init_181 : decode b_Mo_init 181 = .ok (.bipush 15, 2) := by decide +kernel
theorem d_Mo_init_183 : decode b_Mo_init 183 = .ok (.newarray .int, 2) := by decide +kernel
theorem d_Mo_init_185 : decode b_Mo_init 185 = .ok (.putfield 78, 3) := by decide +kernel
theorem d_Mo_init_188 : decode b_Mo_init 188 = .ok (.aload_n 0, 1) := by decide +kernel
theorem d_Mo_init_189 : decode b_Mo_init 189 = .ok (.bipush 15, 2) := by decide +kernel
theorem d_Mo_init_191 : decode b_Mo_init 191 = .ok (.newarray .int, 2) := by decide +kernel
theorem d_Mo_init_193 : decode b_Mo_init 193 = .ok (.putfield 81, 3) := by decide +kernel
theorem d_Mo_init_196 : decode b_Mo_init 196 = .ok (.aload_n 0, 1) := by decide +kernel
theorem d_Mo_init_197 : decode b_Mo_init 197 = .ok (.bipush 60, 2) := by decide +kernel
theorem d_Mo_init_199 : decode b_Mo_init 199 = .ok (.newarray .int, 2) := by decide +kernel
theorem d_Mo_init_201 : decode b_Mo_init 201 = .ok (.putfield 84, 3) := by decide +kernel
theorem d_Mo_init_204 : decode b_Mo_init 204 = .ok (.aload_n 0, 1) := by decide +kernel
theorem d_Mo_init_205 : decode b_Mo_init 205 = .ok (.bipush 90, 2) := by decide +kernel
theorem d_Mo_init_207 : decode b_Mo_init 207 = .ok (.newarray .int, 2) := by decide +kernel
theorem d_Mo_init_209 : decode b_Mo_init 209 = .ok (.putfield 87, 3) := by decide +kernel
theorem d_Mo_init_212 : decode b_Mo_init 212 = .ok (.aload_n 0, 1) := by decide +kernel
theorem d_Mo_init_213 : decode b_Mo_init 213 = .ok (.sipush 401, 3) := by decide +kernel
theorem d_Mo_init_216 : decode b_Mo_init 216 = .ok (.newarray .int, 2) := by decide +kernel
theorem d_Mo_init_218 : decode b_Mo_init 218 = .ok (.putfield 90, 3) := by decide +kernel
theorem d_Mo_init_221 : decode b_Mo_init 221 = .ok (.aload_n 0, 1) := by decide +kernel
theorem d_Mo_init_222 : decode b_Mo_init 222 = .ok (.sipush 252, 3) := by decide +kernel
theorem d_Mo_init_225 : decode b_Mo_init 225 = .ok (.newarray .long, 2) := by decide +kernel
theorem d_Mo_init_227 : decode b_Mo_init 227 = .ok (.putfield 93, 3) := by decide +kernel
theorem d_Mo_init_230 : decode b_Mo_init 230 = .ok (.aload_n 0, 1) := by decide +kernel
theorem d_Mo_init_231 : decode b_Mo_init 231 = .ok (.sipush 252, 3) := by decide +kernel
theorem d_Mo_init_234 : decode b_Mo_init 234 = .ok (.newarray .long, 2) := by decide +kernel
theorem d_Mo_init_236 : decode b_Mo_init 236 = .ok (.putfield 97, 3) := by decide +kernel
theorem d_Mo_init_239 : decode b_Mo_init 239 = .ok (.aload_n 0, 1) := by decide +kernel
theorem d_Mo_init_240 : decode b_Mo_init 240 = .ok (.bipush 84, 2) := by decide +kernel
theorem d_Mo_init_242 : decode b_Mo_init 242 = .ok (.newarray .int, 2) := by decide +kernel
theorem d_Mo_init_244 : decode b_Mo_init 244 = .ok (.putfield 100, 3) := by decide +kernel
theorem d_Mo_init_247 : decode b_Mo_init 247 = .ok (.aload_n 0, 1) := by decide +kernel
theorem d_Mo_init_248 : decode b_Mo_init 248 = .ok (.bipush 84, 2) := by decide +kernel
theorem d_Mo_init_250 : decode b_Mo_init 250 = .ok (.newarray .float, 2) := by decide +kernel
theorem d_Mo_init_252 : decode b_Mo_init 252 = .ok (.putfield 103, 3) := by decide +kernel
theorem d_Mo_init_255 : decode b_Mo_init 255 = .ok (.aload_n 0, 1) := by decide +kernel
theorem d_Mo_init_256 : decode b_Mo_init 256 = .ok (.bipush 84, 2) := by decide +kernel
theorem d_Mo_init_258 : decode b_Mo_init 258 = .ok (.newarray .long, 2) := by decide +kernel
theorem d_Mo_init_260 : decode b_Mo_init 260 = .ok (.putfield 107, 3) := by decide +kernel
theorem d_Mo_init_263 : decode b_Mo_init 263 = .ok (.aload_n 0, 1) := by decide +kernel
theorem d_Mo_init_264 : decode b_Mo_init 264 = .ok (.iconst 3, 1) := by decide +kernel
theorem d_Mo_init_265 : decode b_Mo_init 265 = .ok (.newarray .int, 2) := by decide +kernel
theorem d_Mo_init_267 : decode b_Mo_init 267 = .ok (.putfield 110, 3) := by decide +kernel
theorem d_Mo_init_270 : decode b_Mo_init 270 = .ok (.aload_n 0, 1) := by decide +kernel
theorem d_Mo_init_271 : decode b_Mo_init 271 = .ok (.bipush 16, 2) := by decide +kernel
theorem d_Mo_init_273 : decode b_Mo_init 273 = .ok (.newarray .int, 2) := by decide +kernel
theorem d_Mo_init_275 : decode b_Mo_init 275 = .ok (.putfield 113, 3) := by decide +kernel
theorem d_Mo_init_278 : decode b_Mo_init 278 = .ok (.aload_n 0, 1) := by decide +kernel
theorem d_Mo_init_279 : decode b_Mo_init 279 = .ok (.bipush 16, 2) := by decide +kernel
theorem d_Mo_init_281 : decode b_Mo_init 281 = .ok (.newarray .int, 2) := by decide +kernel
theorem d_Mo_init_283 : decode b_Mo_init 283 = .ok (.putfield 116, 3) := by decide +kernel
theorem d_Mo_init_286 : decode b_Mo_init 286 = .ok (.aload_n 0, 1) := by decide +kernel
theorem d_Mo_init_287 : decode b_Mo_init 287 = .ok (.bipush 16, 2) := by decide +kernel
theorem d_Mo_init_289 : decode b_Mo_init 289 = .ok (.newarray .int, 2) := by decide +kernel
theorem d_Mo_init_291 : decode b_Mo_init 291 = .ok (.putfield 119, 3) := by decide +kernel
theorem d_Mo_init_294 : decode b_Mo_init 294 = .ok (.return_, 1) := by decide +kernel
def rm_Mo_init : Room := { frames := 1, cells := 35, slots := 2592, locals := 12 }
def m_Mo_init (q : Nat) (T : cn_T) : Option cn_T :=
  (cn_pf q 10 2 T.1.length (cn_ad T (.inl (.int, 6)))).bind fun T1 =>
  (cn_pf q 10 3 T1.1.length (cn_ad T1 (.inl (.int, 6)))).bind fun T3 =>
  (cn_pf q 10 5 T3.1.length (cn_ad T3 (.inl (.int, 24)))).bind fun T5 =>
  (cn_pf q 10 6 T5.1.length (cn_ad T5 (.inl (.int, 24)))).bind fun T7 =>
  (cn_pf q 10 8 T7.1.length (cn_ad T7 (.inl (.int, 6)))).bind fun T9 =>
  (cn_pi q 10 10 (-1) T9).bind fun T11 =>
  (cn_pf q 10 12 T11.1.length (cn_ad T11 (.inl (.boolean, 6)))).bind fun T13 =>
  (cn_pf q 10 13 T13.1.length (cn_ad T13 (.inl (.int, 6)))).bind fun T15 =>
  (cn_pf q 10 14 T15.1.length (cn_ad T15 (.inl (.int, 144)))).bind fun T17 =>
  (cn_pf q 10 15 T17.1.length (cn_ad T17 (.inl (.int, 144)))).bind fun T19 =>
  (cn_pf q 10 16 T19.1.length (cn_ad T19 (.inl (.int, 6)))).bind fun T21 =>
  (cn_pf q 10 17 T21.1.length (cn_ad T21 (.inl (.int, 36)))).bind fun T23 =>
  (cn_pf q 10 18 T23.1.length (cn_ad T23 (.inl (.int, 6)))).bind fun T25 =>
  (cn_pf q 10 19 T25.1.length (cn_ad T25 (.inl (.int, 168)))).bind fun T27 =>
  (cn_pf q 10 20 T27.1.length (cn_ad T27 (.inl (.int, 168)))).bind fun T29 =>
  (cn_pf q 10 21 T29.1.length (cn_ad T29 (.inl (.int, 36)))).bind fun T31 =>
  (cn_pf q 10 22 T31.1.length (cn_ad T31 (.inl (.int, 144)))).bind fun T33 =>
  (cn_pf q 10 24 T33.1.length (cn_ad T33 (.inl (.boolean, 250)))).bind fun T35 =>
  (cn_pf q 10 25 T35.1.length (cn_ad T35 (.inl (.int, 3)))).bind fun T37 =>
  (cn_pf q 10 26 T37.1.length (cn_ad T37 (.inl (.int, 3)))).bind fun T39 =>
  (cn_pf q 10 27 T39.1.length (cn_ad T39 (.inl (.int, 3)))).bind fun T41 =>
  (cn_pf q 10 28 T41.1.length (cn_ad T41 (.inl (.int, 15)))).bind fun T43 =>
  (cn_pf q 10 29 T43.1.length (cn_ad T43 (.inl (.int, 15)))).bind fun T45 =>
  (cn_pf q 10 30 T45.1.length (cn_ad T45 (.inl (.int, 15)))).bind fun T47 =>
  (cn_pf q 10 31 T47.1.length (cn_ad T47 (.inl (.int, 60)))).bind fun T49 =>
  (cn_pf q 10 32 T49.1.length (cn_ad T49 (.inl (.int, 90)))).bind fun T51 =>
  (cn_pf q 10 36 T51.1.length (cn_ad T51 (.inl (.int, 401)))).bind fun T53 =>
  (cn_pf q 10 37 T53.1.length (cn_ad T53 (.inl (.long, 252)))).bind fun T55 =>
  (cn_pf q 10 38 T55.1.length (cn_ad T55 (.inl (.long, 252)))).bind fun T57 =>
  (cn_pf q 10 39 T57.1.length (cn_ad T57 (.inl (.int, 84)))).bind fun T59 =>
  (cn_pf q 10 40 T59.1.length (cn_ad T59 (.inl (.float, 84)))).bind fun T61 =>
  (cn_pf q 10 41 T61.1.length (cn_ad T61 (.inl (.long, 84)))).bind fun T63 =>
  (cn_pf q 10 43 T63.1.length (cn_ad T63 (.inl (.int, 3)))).bind fun T65 =>
  (cn_pf q 10 45 T65.1.length (cn_ad T65 (.inl (.int, 16)))).bind fun T67 =>
  (cn_pf q 10 46 T67.1.length (cn_ad T67 (.inl (.int, 16)))).bind fun T69 =>
  (cn_pf q 10 47 T69.1.length (cn_ad T69 (.inl (.int, 16)))).bind fun T71 =>
  some T71
set_option maxHeartbeats 4000000 in
set_option maxRecDepth 100000 in
theorem cc_Mo_init (l : Launch) (G : fm_G) (q : Nat) {T T' : cn_T} (h : m_Mo_init q T = some T') : cMet l y_Mo_init b_Mo_init 1 rm_Mo_init G T [.ref (G.2.2 + q)] T' 35 2592 := by
  refine cn_met (own := "AllocationProfilerModel") (by decide) rfl rfl (Nat.le_of_ble_eq_true rfl) (fun p e s m args below meth c C0 hnm h0 hK ls hl => ?_)
  have hx := C0.1.1
  have hb := C0.1.2.1
  have hl : lv_has ls 1 [(0, .ref (G.2.2 + q))] := hl
  unfold m_Mo_init at h
  refine lv_aload_n hx hb d_Mo_init_0 rfl (lv_at hl 0 rfl) ?_
  refine cn_obj C0 (gT_in 976 (by decide +kernel) rfl) oI oC hl.1 ⟨Nat.le_of_ble_eq_true rfl, Nat.le_of_ble_eq_true rfl⟩ d_Mo_init_1 ?_
  refine lv_aload_n hx hb d_Mo_init_4 rfl (lv_at hl 0 rfl) ?_
  refine lv_bipush (v := 6) hx hb d_Mo_init_5 (by decide) ?_
  refine cn_prim C0 (ty := .int) rfl (by decide) aC_int hK (N0 := 6) (by decide) (by decide) (by decide) ⟨Nat.le_of_ble_eq_true rfl, Nat.le_of_ble_eq_true rfl⟩ d_Mo_init_7 (fun H hK => ?_)
  obtain ⟨T1, e2, h⟩ := ob h
  refine cn_putr C0 hnm Ff_Mo_7 rfl hK e2 d_Mo_init_9 (fun H locs hK => ?_)
  refine lv_aload_n hx hb d_Mo_init_12 rfl (lv_at hl 0 rfl) ?_
  refine lv_bipush (v := 6) hx hb d_Mo_init_13 (by decide) ?_
  refine cn_prim C0 (ty := .int) rfl (by decide) aC_int hK (N0 := 6) (by decide) (by decide) (by decide) ⟨Nat.le_of_ble_eq_true rfl, Nat.le_of_ble_eq_true rfl⟩ d_Mo_init_15 (fun H hK => ?_)
  obtain ⟨T3, e4, h⟩ := ob h
  refine cn_putr C0 hnm Ff_Mo_13 rfl hK e4 d_Mo_init_17 (fun H locs hK => ?_)
  refine lv_aload_n hx hb d_Mo_init_20 rfl (lv_at hl 0 rfl) ?_
  refine lv_bipush (v := 24) hx hb d_Mo_init_21 (by decide) ?_
  refine cn_prim C0 (ty := .int) rfl (by decide) aC_int hK (N0 := 24) (by decide) (by decide) (by decide) ⟨Nat.le_of_ble_eq_true rfl, Nat.le_of_ble_eq_true rfl⟩ d_Mo_init_23 (fun H hK => ?_)
  obtain ⟨T5, e6, h⟩ := ob h
  refine cn_putr C0 hnm Ff_Mo_16 rfl hK e6 d_Mo_init_25 (fun H locs hK => ?_)
  refine lv_aload_n hx hb d_Mo_init_28 rfl (lv_at hl 0 rfl) ?_
  refine lv_bipush (v := 24) hx hb d_Mo_init_29 (by decide) ?_
  refine cn_prim C0 (ty := .int) rfl (by decide) aC_int hK (N0 := 24) (by decide) (by decide) (by decide) ⟨Nat.le_of_ble_eq_true rfl, Nat.le_of_ble_eq_true rfl⟩ d_Mo_init_31 (fun H hK => ?_)
  obtain ⟨T7, e8, h⟩ := ob h
  refine cn_putr C0 hnm Ff_Mo_19 rfl hK e8 d_Mo_init_33 (fun H locs hK => ?_)
  refine lv_aload_n hx hb d_Mo_init_36 rfl (lv_at hl 0 rfl) ?_
  refine lv_bipush (v := 6) hx hb d_Mo_init_37 (by decide) ?_
  refine cn_prim C0 (ty := .int) rfl (by decide) aC_int hK (N0 := 6) (by decide) (by decide) (by decide) ⟨Nat.le_of_ble_eq_true rfl, Nat.le_of_ble_eq_true rfl⟩ d_Mo_init_39 (fun H hK => ?_)
  obtain ⟨T9, e10, h⟩ := ob h
  refine cn_putr C0 hnm Ff_Mo_22 rfl hK e10 d_Mo_init_41 (fun H locs hK => ?_)
  refine lv_aload_n hx hb d_Mo_init_44 rfl (lv_at hl 0 rfl) ?_
  refine lv_iconst (v := (-1)) hx hb d_Mo_init_45 (by decide) ?_
  obtain ⟨T11, e12, h⟩ := ob h
  refine cn_puti C0 Fi_Mo_25 rfl rfl hK e12 d_Mo_init_46 (fun H locs hK => ?_)
  refine lv_aload_n hx hb d_Mo_init_49 rfl (lv_at hl 0 rfl) ?_
  refine lv_bipush (v := 6) hx hb d_Mo_init_50 (by decide) ?_
  refine cn_prim C0 (ty := .boolean) rfl (by decide) aC_boolean hK (N0 := 6) (by decide) (by decide) (by decide) ⟨Nat.le_of_ble_eq_true rfl, Nat.le_of_ble_eq_true rfl⟩ d_Mo_init_52 (fun H hK => ?_)
  obtain ⟨T13, e14, h⟩ := ob h
  refine cn_putr C0 hnm Ff_Mo_29 rfl hK e14 d_Mo_init_54 (fun H locs hK => ?_)
  refine lv_aload_n hx hb d_Mo_init_57 rfl (lv_at hl 0 rfl) ?_
  refine lv_bipush (v := 6) hx hb d_Mo_init_58 (by decide) ?_
  refine cn_prim C0 (ty := .int) rfl (by decide) aC_int hK (N0 := 6) (by decide) (by decide) (by decide) ⟨Nat.le_of_ble_eq_true rfl, Nat.le_of_ble_eq_true rfl⟩ d_Mo_init_60 (fun H hK => ?_)
  obtain ⟨T15, e16, h⟩ := ob h
  refine cn_putr C0 hnm Ff_Mo_33 rfl hK e16 d_Mo_init_62 (fun H locs hK => ?_)
  refine lv_aload_n hx hb d_Mo_init_65 rfl (lv_at hl 0 rfl) ?_
  refine lv_sipush (v := 144) hx hb d_Mo_init_66 (by decide) ?_
  refine cn_prim C0 (ty := .int) rfl (by decide) aC_int hK (N0 := 144) (by decide) (by decide) (by decide) ⟨Nat.le_of_ble_eq_true rfl, Nat.le_of_ble_eq_true rfl⟩ d_Mo_init_69 (fun H hK => ?_)
  obtain ⟨T17, e18, h⟩ := ob h
  refine cn_putr C0 hnm Ff_Mo_36 rfl hK e18 d_Mo_init_71 (fun H locs hK => ?_)
  refine lv_aload_n hx hb d_Mo_init_74 rfl (lv_at hl 0 rfl) ?_
  refine lv_sipush (v := 144) hx hb d_Mo_init_75 (by decide) ?_
  refine cn_prim C0 (ty := .int) rfl (by decide) aC_int hK (N0 := 144) (by decide) (by decide) (by decide) ⟨Nat.le_of_ble_eq_true rfl, Nat.le_of_ble_eq_true rfl⟩ d_Mo_init_78 (fun H hK => ?_)
  obtain ⟨T19, e20, h⟩ := ob h
  refine cn_putr C0 hnm Ff_Mo_39 rfl hK e20 d_Mo_init_80 (fun H locs hK => ?_)
  refine lv_aload_n hx hb d_Mo_init_83 rfl (lv_at hl 0 rfl) ?_
  refine lv_bipush (v := 6) hx hb d_Mo_init_84 (by decide) ?_
  refine cn_prim C0 (ty := .int) rfl (by decide) aC_int hK (N0 := 6) (by decide) (by decide) (by decide) ⟨Nat.le_of_ble_eq_true rfl, Nat.le_of_ble_eq_true rfl⟩ d_Mo_init_86 (fun H hK => ?_)
  obtain ⟨T21, e22, h⟩ := ob h
  refine cn_putr C0 hnm Ff_Mo_42 rfl hK e22 d_Mo_init_88 (fun H locs hK => ?_)
  refine lv_aload_n hx hb d_Mo_init_91 rfl (lv_at hl 0 rfl) ?_
  refine lv_bipush (v := 36) hx hb d_Mo_init_92 (by decide) ?_
  refine cn_prim C0 (ty := .int) rfl (by decide) aC_int hK (N0 := 36) (by decide) (by decide) (by decide) ⟨Nat.le_of_ble_eq_true rfl, Nat.le_of_ble_eq_true rfl⟩ d_Mo_init_94 (fun H hK => ?_)
  obtain ⟨T23, e24, h⟩ := ob h
  refine cn_putr C0 hnm Ff_Mo_45 rfl hK e24 d_Mo_init_96 (fun H locs hK => ?_)
  refine lv_aload_n hx hb d_Mo_init_99 rfl (lv_at hl 0 rfl) ?_
  refine lv_bipush (v := 6) hx hb d_Mo_init_100 (by decide) ?_
  refine cn_prim C0 (ty := .int) rfl (by decide) aC_int hK (N0 := 6) (by decide) (by decide) (by decide) ⟨Nat.le_of_ble_eq_true rfl, Nat.le_of_ble_eq_true rfl⟩ d_Mo_init_102 (fun H hK => ?_)
  obtain ⟨T25, e26, h⟩ := ob h
  refine cn_putr C0 hnm Ff_Mo_48 rfl hK e26 d_Mo_init_104 (fun H locs hK => ?_)
  refine lv_aload_n hx hb d_Mo_init_107 rfl (lv_at hl 0 rfl) ?_
  refine lv_sipush (v := 168) hx hb d_Mo_init_108 (by decide) ?_
  refine cn_prim C0 (ty := .int) rfl (by decide) aC_int hK (N0 := 168) (by decide) (by decide) (by decide) ⟨Nat.le_of_ble_eq_true rfl, Nat.le_of_ble_eq_true rfl⟩ d_Mo_init_111 (fun H hK => ?_)
  obtain ⟨T27, e28, h⟩ := ob h
  refine cn_putr C0 hnm Ff_Mo_51 rfl hK e28 d_Mo_init_113 (fun H locs hK => ?_)
  refine lv_aload_n hx hb d_Mo_init_116 rfl (lv_at hl 0 rfl) ?_
  refine lv_sipush (v := 168) hx hb d_Mo_init_117 (by decide) ?_
  refine cn_prim C0 (ty := .int) rfl (by decide) aC_int hK (N0 := 168) (by decide) (by decide) (by decide) ⟨Nat.le_of_ble_eq_true rfl, Nat.le_of_ble_eq_true rfl⟩ d_Mo_init_120 (fun H hK => ?_)
  obtain ⟨T29, e30, h⟩ := ob h
  refine cn_putr C0 hnm Ff_Mo_54 rfl hK e30 d_Mo_init_122 (fun H locs hK => ?_)
  refine lv_aload_n hx hb d_Mo_init_125 rfl (lv_at hl 0 rfl) ?_
  refine lv_bipush (v := 36) hx hb d_Mo_init_126 (by decide) ?_
  refine cn_prim C0 (ty := .int) rfl (by decide) aC_int hK (N0 := 36) (by decide) (by decide) (by decide) ⟨Nat.le_of_ble_eq_true rfl, Nat.le_of_ble_eq_true rfl⟩ d_Mo_init_128 (fun H hK => ?_)
  obtain ⟨T31, e32, h⟩ := ob h
  refine cn_putr C0 hnm Ff_Mo_57 rfl hK e32 d_Mo_init_130 (fun H locs hK => ?_)
  refine lv_aload_n hx hb d_Mo_init_133 rfl (lv_at hl 0 rfl) ?_
  refine lv_sipush (v := 144) hx hb d_Mo_init_134 (by decide) ?_
  refine cn_prim C0 (ty := .int) rfl (by decide) aC_int hK (N0 := 144) (by decide) (by decide) (by decide) ⟨Nat.le_of_ble_eq_true rfl, Nat.le_of_ble_eq_true rfl⟩ d_Mo_init_137 (fun H hK => ?_)
  obtain ⟨T33, e34, h⟩ := ob h
  refine cn_putr C0 hnm Ff_Mo_60 rfl hK e34 d_Mo_init_139 (fun H locs hK => ?_)
  refine lv_aload_n hx hb d_Mo_init_142 rfl (lv_at hl 0 rfl) ?_
  refine lv_sipush (v := 250) hx hb d_Mo_init_143 (by decide) ?_
  refine cn_prim C0 (ty := .boolean) rfl (by decide) aC_boolean hK (N0 := 250) (by decide) (by decide) (by decide) ⟨Nat.le_of_ble_eq_true rfl, Nat.le_of_ble_eq_true rfl⟩ d_Mo_init_146 (fun H hK => ?_)
  obtain ⟨T35, e36, h⟩ := ob h
  refine cn_putr C0 hnm Ff_Mo_63 rfl hK e36 d_Mo_init_148 (fun H locs hK => ?_)
  refine lv_aload_n hx hb d_Mo_init_151 rfl (lv_at hl 0 rfl) ?_
  refine lv_iconst (v := 3) hx hb d_Mo_init_152 (by decide) ?_
  refine cn_prim C0 (ty := .int) rfl (by decide) aC_int hK (N0 := 3) (by decide) (by decide) (by decide) ⟨Nat.le_of_ble_eq_true rfl, Nat.le_of_ble_eq_true rfl⟩ d_Mo_init_153 (fun H hK => ?_)
  obtain ⟨T37, e38, h⟩ := ob h
  refine cn_putr C0 hnm Ff_Mo_66 rfl hK e38 d_Mo_init_155 (fun H locs hK => ?_)
  refine lv_aload_n hx hb d_Mo_init_158 rfl (lv_at hl 0 rfl) ?_
  refine lv_iconst (v := 3) hx hb d_Mo_init_159 (by decide) ?_
  refine cn_prim C0 (ty := .int) rfl (by decide) aC_int hK (N0 := 3) (by decide) (by decide) (by decide) ⟨Nat.le_of_ble_eq_true rfl, Nat.le_of_ble_eq_true rfl⟩ d_Mo_init_160 (fun H hK => ?_)
  obtain ⟨T39, e40, h⟩ := ob h
  refine cn_putr C0 hnm Ff_Mo_69 rfl hK e40 d_Mo_init_162 (fun H locs hK => ?_)
  refine lv_aload_n hx hb d_Mo_init_165 rfl (lv_at hl 0 rfl) ?_
  refine lv_iconst (v := 3) hx hb d_Mo_init_166 (by decide) ?_
  refine cn_prim C0 (ty := .int) rfl (by decide) aC_int hK (N0 := 3) (by decide) (by decide) (by decide) ⟨Nat.le_of_ble_eq_true rfl, Nat.le_of_ble_eq_true rfl⟩ d_Mo_init_167 (fun H hK => ?_)
  obtain ⟨T41, e42, h⟩ := ob h
  refine cn_putr C0 hnm Ff_Mo_72 rfl hK e42 d_Mo_init_169 (fun H locs hK => ?_)
  refine lv_aload_n hx hb d_Mo_init_172 rfl (lv_at hl 0 rfl) ?_
  refine lv_bipush (v := 15) hx hb d_Mo_init_173 (by decide) ?_
  refine cn_prim C0 (ty := .int) rfl (by decide) aC_int hK (N0 := 15) (by decide) (by decide) (by decide) ⟨Nat.le_of_ble_eq_true rfl, Nat.le_of_ble_eq_true rfl⟩ d_Mo_init_175 (fun H hK => ?_)
  obtain ⟨T43, e44, h⟩ := ob h
  refine cn_putr C0 hnm Ff_Mo_75 rfl hK e44 d_Mo_init_177 (fun H locs hK => ?_)
  refine lv_aload_n hx hb d_Mo_init_180 rfl (lv_at hl 0 rfl) ?_
  refine lv_bipush (v := 15) hx hb d_Mo_init_181 (by decide) ?_
  refine cn_prim C0 (ty := .int) rfl (by decide) aC_int hK (N0 := 15) (by decide) (by decide) (by decide) ⟨Nat.le_of_ble_eq_true rfl, Nat.le_of_ble_eq_true rfl⟩ d_Mo_init_183 (fun H hK => ?_)
  obtain ⟨T45, e46, h⟩ := ob h
  refine cn_putr C0 hnm Ff_Mo_78 rfl hK e46 d_Mo_init_185 (fun H locs hK => ?_)
  refine lv_aload_n hx hb d_Mo_init_188 rfl (lv_at hl 0 rfl) ?_
  refine lv_bipush (v := 15) hx hb d_Mo_init_189 (by decide) ?_
  refine cn_prim C0 (ty := .int) rfl (by decide) aC_int hK (N0 := 15) (by decide) (by decide) (by decide) ⟨Nat.le_of_ble_eq_true rfl, Nat.le_of_ble_eq_true rfl⟩ d_Mo_init_191 (fun H hK => ?_)
  obtain ⟨T47, e48, h⟩ := ob h
  refine cn_putr C0 hnm Ff_Mo_81 rfl hK e48 d_Mo_init_193 (fun H locs hK => ?_)
  refine lv_aload_n hx hb d_Mo_init_196 rfl (lv_at hl 0 rfl) ?_
  refine lv_bipush (v := 60) hx hb d_Mo_init_197 (by decide) ?_
  refine cn_prim C0 (ty := .int) rfl (by decide) aC_int hK (N0 := 60) (by decide) (by decide) (by decide) ⟨Nat.le_of_ble_eq_true rfl, Nat.le_of_ble_eq_true rfl⟩ d_Mo_init_199 (fun H hK => ?_)
  obtain ⟨T49, e50, h⟩ := ob h
  refine cn_putr C0 hnm Ff_Mo_84 rfl hK e50 d_Mo_init_201 (fun H locs hK => ?_)
  refine lv_aload_n hx hb d_Mo_init_204 rfl (lv_at hl 0 rfl) ?_
  refine lv_bipush (v := 90) hx hb d_Mo_init_205 (by decide) ?_
  refine cn_prim C0 (ty := .int) rfl (by decide) aC_int hK (N0 := 90) (by decide) (by decide) (by decide) ⟨Nat.le_of_ble_eq_true rfl, Nat.le_of_ble_eq_true rfl⟩ d_Mo_init_207 (fun H hK => ?_)
  obtain ⟨T51, e52, h⟩ := ob h
  refine cn_putr C0 hnm Ff_Mo_87 rfl hK e52 d_Mo_init_209 (fun H locs hK => ?_)
  refine lv_aload_n hx hb d_Mo_init_212 rfl (lv_at hl 0 rfl) ?_
  refine lv_sipush (v := 401) hx hb d_Mo_init_213 (by decide) ?_
  refine cn_prim C0 (ty := .int) rfl (by decide) aC_int hK (N0 := 401) (by decide) (by decide) (by decide) ⟨Nat.le_of_ble_eq_true rfl, Nat.le_of_ble_eq_true rfl⟩ d_Mo_init_216 (fun H hK => ?_)
  obtain ⟨T53, e54, h⟩ := ob h
  refine cn_putr C0 hnm Ff_Mo_90 rfl hK e54 d_Mo_init_218 (fun H locs hK => ?_)
  refine lv_aload_n hx hb d_Mo_init_221 rfl (lv_at hl 0 rfl) ?_
  refine lv_sipush (v := 252) hx hb d_Mo_init_222 (by decide) ?_
  refine cn_prim C0 (ty := .long) rfl (by decide) aC_long hK (N0 := 252) (by decide) (by decide) (by decide) ⟨Nat.le_of_ble_eq_true rfl, Nat.le_of_ble_eq_true rfl⟩ d_Mo_init_225 (fun H hK => ?_)
  obtain ⟨T55, e56, h⟩ := ob h
  refine cn_putr C0 hnm Ff_Mo_93 rfl hK e56 d_Mo_init_227 (fun H locs hK => ?_)
  refine lv_aload_n hx hb d_Mo_init_230 rfl (lv_at hl 0 rfl) ?_
  refine lv_sipush (v := 252) hx hb d_Mo_init_231 (by decide) ?_
  refine cn_prim C0 (ty := .long) rfl (by decide) aC_long hK (N0 := 252) (by decide) (by decide) (by decide) ⟨Nat.le_of_ble_eq_true rfl, Nat.le_of_ble_eq_true rfl⟩ d_Mo_init_234 (fun H hK => ?_)
  obtain ⟨T57, e58, h⟩ := ob h
  refine cn_putr C0 hnm Ff_Mo_97 rfl hK e58 d_Mo_init_236 (fun H locs hK => ?_)
  refine lv_aload_n hx hb d_Mo_init_239 rfl (lv_at hl 0 rfl) ?_
  refine lv_bipush (v := 84) hx hb d_Mo_init_240 (by decide) ?_
  refine cn_prim C0 (ty := .int) rfl (by decide) aC_int hK (N0 := 84) (by decide) (by decide) (by decide) ⟨Nat.le_of_ble_eq_true rfl, Nat.le_of_ble_eq_true rfl⟩ d_Mo_init_242 (fun H hK => ?_)
  obtain ⟨T59, e60, h⟩ := ob h
  refine cn_putr C0 hnm Ff_Mo_100 rfl hK e60 d_Mo_init_244 (fun H locs hK => ?_)
  refine lv_aload_n hx hb d_Mo_init_247 rfl (lv_at hl 0 rfl) ?_
  refine lv_bipush (v := 84) hx hb d_Mo_init_248 (by decide) ?_
  refine cn_prim C0 (ty := .float) rfl (by decide) aC_float hK (N0 := 84) (by decide) (by decide) (by decide) ⟨Nat.le_of_ble_eq_true rfl, Nat.le_of_ble_eq_true rfl⟩ d_Mo_init_250 (fun H hK => ?_)
  obtain ⟨T61, e62, h⟩ := ob h
  refine cn_putr C0 hnm Ff_Mo_103 rfl hK e62 d_Mo_init_252 (fun H locs hK => ?_)
  refine lv_aload_n hx hb d_Mo_init_255 rfl (lv_at hl 0 rfl) ?_
  refine lv_bipush (v := 84) hx hb d_Mo_init_256 (by decide) ?_
  refine cn_prim C0 (ty := .long) rfl (by decide) aC_long hK (N0 := 84) (by decide) (by decide) (by decide) ⟨Nat.le_of_ble_eq_true rfl, Nat.le_of_ble_eq_true rfl⟩ d_Mo_init_258 (fun H hK => ?_)
  obtain ⟨T63, e64, h⟩ := ob h
  refine cn_putr C0 hnm Ff_Mo_107 rfl hK e64 d_Mo_init_260 (fun H locs hK => ?_)
  refine lv_aload_n hx hb d_Mo_init_263 rfl (lv_at hl 0 rfl) ?_
  refine lv_iconst (v := 3) hx hb d_Mo_init_264 (by decide) ?_
  refine cn_prim C0 (ty := .int) rfl (by decide) aC_int hK (N0 := 3) (by decide) (by decide) (by decide) ⟨Nat.le_of_ble_eq_true rfl, Nat.le_of_ble_eq_true rfl⟩ d_Mo_init_265 (fun H hK => ?_)
  obtain ⟨T65, e66, h⟩ := ob h
  refine cn_putr C0 hnm Ff_Mo_110 rfl hK e66 d_Mo_init_267 (fun H locs hK => ?_)
  refine lv_aload_n hx hb d_Mo_init_270 rfl (lv_at hl 0 rfl) ?_
  refine lv_bipush (v := 16) hx hb d_Mo_init_271 (by decide) ?_
  refine cn_prim C0 (ty := .int) rfl (by decide) aC_int hK (N0 := 16) (by decide) (by decide) (by decide) ⟨Nat.le_of_ble_eq_true rfl, Nat.le_of_ble_eq_true rfl⟩ d_Mo_init_273 (fun H hK => ?_)
  obtain ⟨T67, e68, h⟩ := ob h
  refine cn_putr C0 hnm Ff_Mo_113 rfl hK e68 d_Mo_init_275 (fun H locs hK => ?_)
  refine lv_aload_n hx hb d_Mo_init_278 rfl (lv_at hl 0 rfl) ?_
  refine lv_bipush (v := 16) hx hb d_Mo_init_279 (by decide) ?_
  refine cn_prim C0 (ty := .int) rfl (by decide) aC_int hK (N0 := 16) (by decide) (by decide) (by decide) ⟨Nat.le_of_ble_eq_true rfl, Nat.le_of_ble_eq_true rfl⟩ d_Mo_init_281 (fun H hK => ?_)
  obtain ⟨T69, e70, h⟩ := ob h
  refine cn_putr C0 hnm Ff_Mo_116 rfl hK e70 d_Mo_init_283 (fun H locs hK => ?_)
  refine lv_aload_n hx hb d_Mo_init_286 rfl (lv_at hl 0 rfl) ?_
  refine lv_bipush (v := 16) hx hb d_Mo_init_287 (by decide) ?_
  refine cn_prim C0 (ty := .int) rfl (by decide) aC_int hK (N0 := 16) (by decide) (by decide) (by decide) ⟨Nat.le_of_ble_eq_true rfl, Nat.le_of_ble_eq_true rfl⟩ d_Mo_init_289 (fun H hK => ?_)
  obtain ⟨T71, e72, h⟩ := ob h
  refine cn_putr C0 hnm Ff_Mo_119 rfl hK e72 d_Mo_init_291 (fun H locs hK => ?_)
  cases h
  exact cn_ret C0 h0 hK d_Mo_init_294
