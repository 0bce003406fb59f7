def R_law : String := "AllocationProfilerLaw"
def lw_P (b : Addr) (xs : List Int32) (args : Array Value) (s : State) : Prop := args = #[.ref b] ∧ s.IntsAt b xs ∧ xs.length ≤ 3072 ∧ (Jvm.Cond.and given_1 narrow_1).before args s = true
def lw_Q (_ : Array Value) (s : State) (o : Outcome) (t : State) : Prop := o = .returned (some (.int 1)) ∧ Framed s o t [] 601024 7293034
def lw_Z (below : List Frame) (a : Array Value) (s : State) : State → Prop := fun t => ∃ o, t.status = .running ∧ Ended t below o ∧ lw_Q a s o t
/-- the law's own end, with 1 on the stack, nothing written that was there before, its room as the claim has it -/
theorem lw_ret {p : Program} {l : Launch} {e : Env} {s : State} {m : MethodId} {below : List Frame} {meth : Method} {c : Code} {b : Nat} (hx : p.tables.exec = Jvm.exec) (hb : c.code = code) (hr : meth.sig.returnType = ret) (hlocks : meth.locks = false) {pc : Nat} {H : Heap} {ls : Array Slot} (hdg : decode code pc = .ok (.ireturn, 1)) : W p l e room_1 s m #[Value.ref b] below meth c H [] 601024 7293034 (lw_Z below #[Value.ref b] s) (F0 m pc ls [.int 1]) := by
  intro T hT X
  obtain ⟨fs, hret, hrun, hended, hW, hframe⟩ := X.leave (v := some (.int 1)) (hlocks := hlocks) (fun h => by rw [hr] at h; cases h)
  have hmeth' : T.vm.method? m = some meth := X.method'
  refine ⟨T.setFrames fs, ?_, .returned (some (.int 1)), hrun, hended, rfl, ⟨_, rfl⟩, hW, hframe⟩
  jvm_step X.here [X.here.top, hx, hb, hdg, hmeth', hr, ret, narrow_b1]
  (try refine ⟨rfl, ?_⟩); (try refine ⟨rfl, ?_⟩)
  first | (intro acts; rw [hret _ acts rfl rfl rfl]) | rw [hret _ _ rfl rfl rfl]
  exact Steps.refl _
/-- what holds at the law's entry: the machine, the code, the tables' words (any of lw_tbl by 'hts w (by decide +kernel)'), the script of L ints xs at the cell b, what the Statement gives of the start (any of its parts by flat_of_before) -/
def lw_At (p : Program) (s : State) (m : MethodId) (meth : Method) (c : Code) (b L : Nat) (xs : Nat → Int32) : Prop :=
  p.tables.exec = Jvm.exec ∧ c.code = code ∧ meth.sig.returnType = ret ∧ c.maxLocals = 9 ∧ s.vm.findClass R_law = some m.cls ∧ (∀ w ∈ lw_tbl, w.before #[Value.ref b] s = true) ∧ va_X b L xs s s.heap ∧ b < s.heap.size ∧ meth.locks = false ∧ (Jvm.Cond.and given_1 narrow_1).before #[Value.ref b] s = true
/-! the law's cases -/
theorem l_sld {p : Program} {l : Launch} {e : Env} {R : Room} {s : State} {m : MethodId} {args : Array Value} {below : List Frame} {meth : Method} {c : Code} {H : Heap} {locs : List Loc} {cells slots : Nat} {Q : State → Prop} {cc : ByteArray} {pc : Nat} {ls : Array Slot} {rest : List Value} {A : Nat → Prop} (hexec : p.tables.exec = Jvm.exec) (hb : c.code = cc) {b L : Nat} {xs : Nat → Int32} (hX : va_X b L xs s s.heap) (hbl : b < s.heap.size) (hbA : ¬ A b) (hS : va_S A s.heap H locs) {i v : Int32} (ha : vp_in i L ∧ xs i.toNatClampNeg = v) (hdg : decode cc pc = .ok (.iaload, 1))
    (kk : W p l e R s m args below meth c H locs cells slots Q (F0 m (pc + 1) ls (.int v :: rest))) : W p l e R s m args below meth c H locs cells slots Q (F0 m pc ls (.int i :: .ref b :: rest)) := by
  obtain ⟨hin, rfl⟩ := ha
  exact va_sld hexec hb hX hbl hbA hS hin hdg kk
theorem L_Law_101 : fm_LV "AllocationProfilerLaw" 101 "AllocationProfilerModel" y_Mo_type b_Mo_type 8 (some .int) 5 := ⟨⟨(gT_in 1127 (by decide +kernel) rfl), (gT_in 1128 (by decide +kernel) rfl), (gT_in 1129 (by decide +kernel) rfl), (gT_in 11 (by decide +kernel) rfl), (gT_in 1130 (by decide +kernel) rfl)⟩, by decide +kernel⟩
theorem L_Law_102 : fm_LV "AllocationProfilerLaw" 102 "AllocationProfilerModel" y_Mo_thrown b_Mo_thrown 1 (some .int) 0 := ⟨⟨(gT_in 1123 (by decide +kernel) rfl), (gT_in 1124 (by decide +kernel) rfl), (gT_in 1125 (by decide +kernel) rfl), (gT_in 11 (by decide +kernel) rfl), (gT_in 1126 (by decide +kernel) rfl)⟩, by decide +kernel⟩
theorem L_Law_108 : fm_LV "AllocationProfilerLaw" 108 "AllocationProfilerModel" y_Mo_size b_Mo_size 2 (some .int) 1 := ⟨⟨(gT_in 1137 (by decide +kernel) rfl), (gT_in 1138 (by decide +kernel) rfl), (gT_in 1139 (by decide +kernel) rfl), (gT_in 11 (by decide +kernel) rfl), (gT_in 1140 (by decide +kernel) rfl)⟩, by decide +kernel⟩
theorem L_Law_112 : fm_LV "AllocationProfilerLaw" 112 "AllocationProfilerModel" y_Mo_draft b_Mo_draft 3 (some .int) 2 := ⟨⟨(gT_in 1145 (by decide +kernel) rfl), (gT_in 1146 (by decide +kernel) rfl), (gT_in 1147 (by decide +kernel) rfl), (gT_in 11 (by decide +kernel) rfl), (gT_in 1148 (by decide +kernel) rfl)⟩, by decide +kernel⟩
theorem L_Law_116 : fm_LV "AllocationProfilerLaw" 116 "AllocationProfilerModel" y_Mo_range b_Mo_range 4 (some .int) 3 := ⟨⟨(gT_in 1149 (by decide +kernel) rfl), (gT_in 1150 (by decide +kernel) rfl), (gT_in 1151 (by decide +kernel) rfl), (gT_in 11 (by decide +kernel) rfl), (gT_in 1152 (by decide +kernel) rfl)⟩, by decide +kernel⟩
theorem L_Law_120 : fm_LV "AllocationProfilerLaw" 120 "AllocationProfilerModel" y_Mo_define b_Mo_define 4 (some .int) 0 := ⟨⟨(gT_in 1153 (by decide +kernel) rfl), (gT_in 1154 (by decide +kernel) rfl), (gT_in 1155 (by decide +kernel) rfl), (gT_in 11 (by decide +kernel) rfl), (gT_in 1156 (by decide +kernel) rfl)⟩, by decide +kernel⟩
theorem L_Law_121 : fm_LV "AllocationProfilerLaw" 121 "AllocationProfiler" y_AP_fault b_AP_fault 1 (some .int) 0 := ⟨⟨(gT_in 316 (by decide +kernel) rfl), (gT_in 317 (by decide +kernel) rfl), (gT_in 318 (by decide +kernel) rfl), (gT_in 1 (by decide +kernel) rfl), (gT_in 319 (by decide +kernel) rfl)⟩, by decide +kernel⟩
theorem L_Law_124 : fm_LV "AllocationProfilerLaw" 124 "AllocationProfilerModel" y_Mo_fault b_Mo_fault 1 (some .int) 0 := ⟨⟨(gT_in 1193 (by decide +kernel) rfl), (gT_in 1194 (by decide +kernel) rfl), (gT_in 1195 (by decide +kernel) rfl), (gT_in 11 (by decide +kernel) rfl), (gT_in 1196 (by decide +kernel) rfl)⟩, by decide +kernel⟩
theorem L_Law_128 : fm_LV "AllocationProfilerLaw" 128 "AllocationProfilerModel" y_Mo_exclude b_Mo_exclude 2 none 1 := ⟨⟨(gT_in 1197 (by decide +kernel) rfl), (gT_in 1198 (by decide +kernel) rfl), (gT_in 1199 (by decide +kernel) rfl), (gT_in 11 (by decide +kernel) rfl), (gT_in 1200 (by decide +kernel) rfl)⟩, by decide +kernel⟩
theorem L_Law_131 : fm_LV "AllocationProfilerLaw" 131 "AllocationProfilerModel" y_Mo_weave b_Mo_weave 3 (some .int) 1 := ⟨⟨(gT_in 1201 (by decide +kernel) rfl), (gT_in 1202 (by decide +kernel) rfl), (gT_in 1203 (by decide +kernel) rfl), (gT_in 11 (by decide +kernel) rfl), (gT_in 1204 (by decide +kernel) rfl)⟩, by decide +kernel⟩
theorem L_Law_135 : fm_LV "AllocationProfilerLaw" 135 "AllocationProfilerModel" y_Mo_length b_Mo_length 3 (some .int) 2 := ⟨⟨(gT_in 1217 (by decide +kernel) rfl), (gT_in 1218 (by decide +kernel) rfl), (gT_in 1219 (by decide +kernel) rfl), (gT_in 11 (by decide +kernel) rfl), (gT_in 1220 (by decide +kernel) rfl)⟩, by decide +kernel⟩
theorem L_Law_138 : fm_LV "AllocationProfilerLaw" 138 "AllocationProfilerModel" y_Mo_code b_Mo_code 4 (some .int) 3 := ⟨⟨(gT_in 1221 (by decide +kernel) rfl), (gT_in 1222 (by decide +kernel) rfl), (gT_in 1223 (by decide +kernel) rfl), (gT_in 11 (by decide +kernel) rfl), (gT_in 1224 (by decide +kernel) rfl)⟩, by decide +kernel⟩
theorem L_Law_141 : fm_LV "AllocationProfilerLaw" 141 "AllocationProfilerModel" y_Mo_site b_Mo_site 3 (some .int) 2 := ⟨⟨(gT_in 1225 (by decide +kernel) rfl), (gT_in 1226 (by decide +kernel) rfl), (gT_in 1227 (by decide +kernel) rfl), (gT_in 11 (by decide +kernel) rfl), (gT_in 1228 (by decide +kernel) rfl)⟩, by decide +kernel⟩
theorem L_Law_145 : fm_LV "AllocationProfilerLaw" 145 "AllocationProfilerModel" y_Mo_start b_Mo_start 4 none 3 := ⟨⟨(gT_in 1229 (by decide +kernel) rfl), (gT_in 1230 (by decide +kernel) rfl), (gT_in 1231 (by decide +kernel) rfl), (gT_in 11 (by decide +kernel) rfl), (gT_in 1232 (by decide +kernel) rfl)⟩, by decide +kernel⟩
theorem L_Law_148 : fm_LV "AllocationProfilerLaw" 148 "AllocationProfilerModel" y_Mo_run b_Mo_run 4 (some .int) 1 := ⟨⟨(gT_in 1237 (by decide +kernel) rfl), (gT_in 1238 (by decide +kernel) rfl), (gT_in 1239 (by decide +kernel) rfl), (gT_in 11 (by decide +kernel) rfl), (gT_in 1240 (by decide +kernel) rfl)⟩, by decide +kernel⟩
theorem L_Law_151 : fm_LV "AllocationProfilerLaw" 151 "AllocationProfilerModel" y_Mo_state b_Mo_state 2 (some .int) 1 := ⟨⟨(gT_in 1309 (by decide +kernel) rfl), (gT_in 1310 (by decide +kernel) rfl), (gT_in 1311 (by decide +kernel) rfl), (gT_in 11 (by decide +kernel) rfl), (gT_in 1312 (by decide +kernel) rfl)⟩, by decide +kernel⟩
theorem L_Law_154 : fm_LV "AllocationProfilerLaw" 154 "AllocationProfilerModel" y_Mo_result b_Mo_result 2 (some .int) 1 := ⟨⟨(gT_in 1313 (by decide +kernel) rfl), (gT_in 1314 (by decide +kernel) rfl), (gT_in 1315 (by decide +kernel) rfl), (gT_in 11 (by decide +kernel) rfl), (gT_in 1316 (by decide +kernel) rfl)⟩, by decide +kernel⟩
theorem L_Law_157 : fm_LV "AllocationProfilerLaw" 157 "AllocationProfilerModel" y_Mo_object b_Mo_object 2 (some .int) 1 := ⟨⟨(gT_in 1317 (by decide +kernel) rfl), (gT_in 1318 (by decide +kernel) rfl), (gT_in 1319 (by decide +kernel) rfl), (gT_in 11 (by decide +kernel) rfl), (gT_in 1320 (by decide +kernel) rfl)⟩, by decide +kernel⟩
theorem L_Law_160 : fm_LV "AllocationProfilerLaw" 160 "AllocationProfilerModel" y_Mo_count b_Mo_count 4 (some .long) 3 := ⟨⟨(gT_in 1321 (by decide +kernel) rfl), (gT_in 1322 (by decide +kernel) rfl), (gT_in 1323 (by decide +kernel) rfl), (gT_in 11 (by decide +kernel) rfl), (gT_in 1324 (by decide +kernel) rfl)⟩, by decide +kernel⟩
theorem L_Law_163 : fm_LV "AllocationProfilerLaw" 163 "AllocationProfilerModel" y_Mo_entry b_Mo_entry 3 (some .int) 2 := ⟨⟨(gT_in 1325 (by decide +kernel) rfl), (gT_in 1326 (by decide +kernel) rfl), (gT_in 1327 (by decide +kernel) rfl), (gT_in 11 (by decide +kernel) rfl), (gT_in 1328 (by decide +kernel) rfl)⟩, by decide +kernel⟩
theorem L_Law_167 : fm_LV "AllocationProfilerLaw" 167 "AllocationProfilerModel" y_Mo_rate b_Mo_rate 2 (some .float) 1 := ⟨⟨(gT_in 1329 (by decide +kernel) rfl), (gT_in 1330 (by decide +kernel) rfl), (gT_in 1331 (by decide +kernel) rfl), (gT_in 11 (by decide +kernel) rfl), (gT_in 1332 (by decide +kernel) rfl)⟩, by decide +kernel⟩
theorem L_Law_170 : fm_LV "AllocationProfilerLaw" 170 "AllocationProfilerModel" y_Mo_share b_Mo_share 3 (some .float) 1 := ⟨⟨(gT_in 1333 (by decide +kernel) rfl), (gT_in 1334 (by decide +kernel) rfl), (gT_in 1335 (by decide +kernel) rfl), (gT_in 11 (by decide +kernel) rfl), (gT_in 1336 (by decide +kernel) rfl)⟩, by decide +kernel⟩
theorem L_Law_173 : fm_LV "AllocationProfilerLaw" 173 "AllocationProfilerModel" y_Mo_estimate b_Mo_estimate 2 (some .double) 1 := ⟨⟨(gT_in 1341 (by decide +kernel) rfl), (gT_in 1342 (by decide +kernel) rfl), (gT_in 1343 (by decide +kernel) rfl), (gT_in 11 (by decide +kernel) rfl), (gT_in 1344 (by decide +kernel) rfl)⟩, by decide +kernel⟩
theorem L_Law_176 : fm_LV "AllocationProfilerLaw" 176 "AllocationProfilerModel" y_Mo_rounded b_Mo_rounded 2 (some .long) 1 := ⟨⟨(gT_in 1349 (by decide +kernel) rfl), (gT_in 1350 (by decide +kernel) rfl), (gT_in 1351 (by decide +kernel) rfl), (gT_in 11 (by decide +kernel) rfl), (gT_in 1352 (by decide +kernel) rfl)⟩, by decide +kernel⟩
theorem L_Law_96 : fm_LW "AllocationProfilerLaw" 96 y_Law_type b_Law_type 8 (some .int) [(0, 16, 19, 13), (0, 16, 23, 15)] 7 := ⟨⟨(gT_in 320 (by decide +kernel) rfl), (gT_in 321 (by decide +kernel) rfl), (gT_in 0 (by decide +kernel) rfl), (gT_in 322 (by decide +kernel) rfl)⟩, by decide +kernel⟩
theorem L_Law_105 : fm_LW "AllocationProfilerLaw" 105 y_Law_size b_Law_size 4 (some .int) [(0, 9, 12, 13)] 3 := ⟨⟨(gT_in 438 (by decide +kernel) rfl), (gT_in 439 (by decide +kernel) rfl), (gT_in 0 (by decide +kernel) rfl), (gT_in 440 (by decide +kernel) rfl)⟩, by decide +kernel⟩
theorem L_Law_109 : fm_LW "AllocationProfilerLaw" 109 y_Law_draft b_Law_draft 5 (some .int) [(0, 10, 13, 13), (0, 10, 17, 15)] 4 := ⟨⟨(gT_in 450 (by decide +kernel) rfl), (gT_in 451 (by decide +kernel) rfl), (gT_in 0 (by decide +kernel) rfl), (gT_in 452 (by decide +kernel) rfl)⟩, by decide +kernel⟩
theorem L_Law_113 : fm_LW "AllocationProfilerLaw" 113 y_Law_range b_Law_range 6 (some .int) [(0, 12, 15, 15)] 5 := ⟨⟨(gT_in 468 (by decide +kernel) rfl), (gT_in 469 (by decide +kernel) rfl), (gT_in 0 (by decide +kernel) rfl), (gT_in 470 (by decide +kernel) rfl)⟩, by decide +kernel⟩
theorem L_Law_117 : fm_LW "AllocationProfilerLaw" 117 y_Law_define b_Law_define 3 (some .int) [(0, 8, 11, 15), (0, 8, 14, 13)] 2 := ⟨⟨(gT_in 485 (by decide +kernel) rfl), (gT_in 486 (by decide +kernel) rfl), (gT_in 0 (by decide +kernel) rfl), (gT_in 487 (by decide +kernel) rfl)⟩, by decide +kernel⟩
theorem L_Law_125 : fm_LW "AllocationProfilerLaw" 125 y_Law_exclude b_Law_exclude 3 (some .int) [(0, 5, 8, 13), (0, 5, 11, 15)] 2 := ⟨⟨(gT_in 584 (by decide +kernel) rfl), (gT_in 585 (by decide +kernel) rfl), (gT_in 0 (by decide +kernel) rfl), (gT_in 586 (by decide +kernel) rfl)⟩, by decide +kernel⟩
theorem L_Law_129 : fm_LW "AllocationProfilerLaw" 129 y_Law_weave b_Law_weave 4 (some .int) [(0, 9, 12, 13), (0, 9, 15, 15)] 3 := ⟨⟨(gT_in 597 (by decide +kernel) rfl), (gT_in 598 (by decide +kernel) rfl), (gT_in 0 (by decide +kernel) rfl), (gT_in 599 (by decide +kernel) rfl)⟩, by decide +kernel⟩
theorem L_Law_132 : fm_LW "AllocationProfilerLaw" 132 y_Law_length b_Law_length 5 (some .int) [(0, 10, 13, 13)] 4 := ⟨⟨(gT_in 631 (by decide +kernel) rfl), (gT_in 632 (by decide +kernel) rfl), (gT_in 0 (by decide +kernel) rfl), (gT_in 633 (by decide +kernel) rfl)⟩, by decide +kernel⟩
theorem L_Law_136 : fm_LW "AllocationProfilerLaw" 136 y_Law_code b_Law_code 6 (some .int) [(0, 12, 15, 13), (0, 12, 19, 47)] 5 := ⟨⟨(gT_in 638 (by decide +kernel) rfl), (gT_in 639 (by decide +kernel) rfl), (gT_in 0 (by decide +kernel) rfl), (gT_in 640 (by decide +kernel) rfl)⟩, by decide +kernel⟩
theorem L_Law_139 : fm_LW "AllocationProfilerLaw" 139 y_Law_site b_Law_site 5 (some .int) [(0, 10, 13, 13), (0, 10, 17, 52)] 4 := ⟨⟨(gT_in 675 (by decide +kernel) rfl), (gT_in 676 (by decide +kernel) rfl), (gT_in 0 (by decide +kernel) rfl), (gT_in 677 (by decide +kernel) rfl)⟩, by decide +kernel⟩
theorem L_Law_142 : fm_LW "AllocationProfilerLaw" 142 y_Law_start b_Law_start 5 (some .int) [(0, 7, 10, 13), (0, 7, 14, 15)] 4 := ⟨⟨(gT_in 700 (by decide +kernel) rfl), (gT_in 701 (by decide +kernel) rfl), (gT_in 0 (by decide +kernel) rfl), (gT_in 702 (by decide +kernel) rfl)⟩, by decide +kernel⟩
theorem L_Law_146 : fm_LW "AllocationProfilerLaw" 146 y_Law_run b_Law_run 4 (some .int) [(0, 9, 12, 13)] 3 := ⟨⟨(gT_in 729 (by decide +kernel) rfl), (gT_in 730 (by decide +kernel) rfl), (gT_in 0 (by decide +kernel) rfl), (gT_in 731 (by decide +kernel) rfl)⟩, by decide +kernel⟩
theorem L_Law_149 : fm_LW "AllocationProfilerLaw" 149 y_Law_state b_Law_state 4 (some .int) [(0, 9, 12, 13)] 3 := ⟨⟨(gT_in 864 (by decide +kernel) rfl), (gT_in 865 (by decide +kernel) rfl), (gT_in 0 (by decide +kernel) rfl), (gT_in 866 (by decide +kernel) rfl)⟩, by decide +kernel⟩
theorem L_Law_152 : fm_LW "AllocationProfilerLaw" 152 y_Law_result b_Law_result 4 (some .int) [(0, 9, 12, 13), (0, 9, 15, 52)] 3 := ⟨⟨(gT_in 876 (by decide +kernel) rfl), (gT_in 877 (by decide +kernel) rfl), (gT_in 0 (by decide +kernel) rfl), (gT_in 878 (by decide +kernel) rfl)⟩, by decide +kernel⟩
theorem L_Law_155 : fm_LW "AllocationProfilerLaw" 155 y_Law_object b_Law_object 4 (some .int) [(0, 9, 12, 13)] 3 := ⟨⟨(gT_in 884 (by decide +kernel) rfl), (gT_in 885 (by decide +kernel) rfl), (gT_in 0 (by decide +kernel) rfl), (gT_in 886 (by decide +kernel) rfl)⟩, by decide +kernel⟩
theorem L_Law_158 : fm_LW "AllocationProfilerLaw" 158 y_Law_count b_Law_count 6 (some .int) [(0, 11, 14, 13), (0, 11, 18, 52)] 5 := ⟨⟨(gT_in 896 (by decide +kernel) rfl), (gT_in 897 (by decide +kernel) rfl), (gT_in 0 (by decide +kernel) rfl), (gT_in 898 (by decide +kernel) rfl)⟩, by decide +kernel⟩
theorem L_Law_161 : fm_LW "AllocationProfilerLaw" 161 y_Law_entry b_Law_entry 5 (some .int) [(0, 10, 13, 13), (0, 10, 17, 47)] 4 := ⟨⟨(gT_in 917 (by decide +kernel) rfl), (gT_in 918 (by decide +kernel) rfl), (gT_in 0 (by decide +kernel) rfl), (gT_in 919 (by decide +kernel) rfl)⟩, by decide +kernel⟩
theorem L_Law_164 : fm_LW "AllocationProfilerLaw" 164 y_Law_rate b_Law_rate 4 (some .int) [(0, 9, 12, 13)] 3 := ⟨⟨(gT_in 925 (by decide +kernel) rfl), (gT_in 926 (by decide +kernel) rfl), (gT_in 0 (by decide +kernel) rfl), (gT_in 927 (by decide +kernel) rfl)⟩, by decide +kernel⟩
theorem L_Law_168 : fm_LW "AllocationProfilerLaw" 168 y_Law_share b_Law_share 4 (some .int) [(0, 9, 12, 13)] 3 := ⟨⟨(gT_in 932 (by decide +kernel) rfl), (gT_in 933 (by decide +kernel) rfl), (gT_in 0 (by decide +kernel) rfl), (gT_in 934 (by decide +kernel) rfl)⟩, by decide +kernel⟩
theorem L_Law_171 : fm_LW "AllocationProfilerLaw" 171 y_Law_estimate b_Law_estimate 4 (some .int) [(0, 8, 11, 13)] 3 := ⟨⟨(gT_in 948 (by decide +kernel) rfl), (gT_in 949 (by decide +kernel) rfl), (gT_in 0 (by decide +kernel) rfl), (gT_in 950 (by decide +kernel) rfl)⟩, by decide +kernel⟩
theorem L_Law_174 : fm_LW "AllocationProfilerLaw" 174 y_Law_rounded b_Law_rounded 4 (some .int) [(0, 8, 11, 13)] 3 := ⟨⟨(gT_in 963 (by decide +kernel) rfl), (gT_in 964 (by decide +kernel) rfl), (gT_in 0 (by decide +kernel) rfl), (gT_in 965 (by decide +kernel) rfl)⟩, by decide +kernel⟩
def l_case0 (a1 : Int32) (a2 : Int32) (a3 : Int32) (a4 : Int32) (a5 : Int32) (M : fm_M) : Option fm_M :=
  bd (f_Law_type 0 a1 a2 a3 a4 a5 210 M) fun x101 M102 =>
  (ck 174 10).bind fun _ =>
  bd (f_Mo_type 174 a1 a2 a3 a4 a5 M102) fun x107 M105 =>
  (ck 174 10).bind fun _ =>
  bd (f_Mo_thrown 174 M105) fun x111 M109 =>
  if x111 = x101 then
    if x101 = 0 then
      (aj 210 0 M109).bind fun x114 =>
      if (lg_cmp x114 x107.toInt64) = 0 then
        some M109
      else
        none
    else
      some M109
  else
    none
set_option maxHeartbeats 4000000 in
set_option maxRecDepth 100000 in
theorem w_law_0 {p : Program} {l : Launch} {e : Env} {s : State} {m : MethodId} {below : List Frame} {meth : Method} {c : Code} {G : fm_G} {w0 : Cond} {b L : Nat} {xs : Nat → Int32} (C0 : fm_C p s m #[Value.ref b] meth c G w0 "AllocationProfilerLaw" code 9 (some .boolean)) (C1 : fx_S G s) (C2 : lx_S s) (hst : l.stackTraces = false) (hX : va_X b L xs s s.heap) (hbl : b < s.heap.size) (hbA : ¬ fm_A G.2.2 b) {cells slots : Nat} (hcs : cells + 1 ≤ 601024 ∧ slots + 6 ≤ 7293034) (i : Int32) (a1 : Int32) (a2 : Int32) (a3 : Int32) (a4 : Int32) (a5 : Int32) (ha1 : vp_in (i + 1) L ∧ xs (i + 1).toNatClampNeg = a1) (ha2 : vp_in (i + 2) L ∧ xs (i + 2).toNatClampNeg = a2) (ha3 : vp_in (i + 3) L ∧ xs (i + 3).toNatClampNeg = a3) (ha4 : vp_in (i + 4) L ∧ xs (i + 4).toNatClampNeg = a4) (ha5 : vp_in (i + 5) L ∧ xs (i + 5).toNatClampNeg = a5) {M M' : fm_M} {H : Heap} {locs : List Loc} (hP : kP G M H) (hS : kS G s H locs) {ls : Array Slot} (hl : lv_has ls 9 [(0, .ref b), (1, .ref (G.2.2 + 0)), (2, .ref (G.2.2 + 174)), (3, .ref (G.2.2 + 210)), (4, .ref (G.2.2 + 211)), (5, .int i)]) (h : l_case0 a1 a2 a3 a4 a5 M = some M')
    (hk : ∀ {H : Heap} {locs : List Loc}, kP G M' H → kS G s H locs → ∀ {ls : Array Slot}, lv_has ls 9 [(0, .ref b), (1, .ref (G.2.2 + 0)), (2, .ref (G.2.2 + 174)), (3, .ref (G.2.2 + 210)), (4, .ref (G.2.2 + 211)), (5, .int i)] → W p l e room_1 s m #[Value.ref b] below meth c H locs (cells + 1) (slots + 6) (lw_Z below #[Value.ref b] s) (F0 m 1556 ls [])) : W p l e room_1 s m #[Value.ref b] below meth c H locs cells slots (lw_Z below #[Value.ref b] s) (F0 m 148 ls []) := by
  have hx := C0.1
  have hb := C0.2.1
  unfold l_case0 at h
  refine lv_aload_n hx hb d_law_148 rfl (lv_at hl 1 rfl) ?_
  refine lv_aload_n hx hb d_law_149 rfl (lv_at hl 0 rfl) ?_
  refine lv_iload hx hb d_law_150 (lv_at hl 5 rfl) ?_
  refine lv_iconst (v := 1) hx hb d_law_152 ic_1 ?_
  refine lv_iadd hx hb d_law_153 ?_
  refine l_sld hx hb hX hbl hbA hS ha1 d_law_154 ?_
  refine lv_aload_n hx hb d_law_155 rfl (lv_at hl 0 rfl) ?_
  refine lv_iload hx hb d_law_156 (lv_at hl 5 rfl) ?_
  refine lv_iconst (v := 2) hx hb d_law_158 ic_2 ?_
  refine lv_iadd hx hb d_law_159 ?_
  refine l_sld hx hb hX hbl hbA hS ha2 d_law_160 ?_
  refine lv_aload_n hx hb d_law_161 rfl (lv_at hl 0 rfl) ?_
  refine lv_iload hx hb d_law_162 (lv_at hl 5 rfl) ?_
  refine lv_iconst (v := 3) hx hb d_law_164 ic_3 ?_
  refine lv_iadd hx hb d_law_165 ?_
  refine l_sld hx hb hX hbl hbA hS ha3 d_law_166 ?_
  refine lv_aload_n hx hb d_law_167 rfl (lv_at hl 0 rfl) ?_
  refine lv_iload hx hb d_law_168 (lv_at hl 5 rfl) ?_
  refine lv_iconst (v := 4) hx hb d_law_170 ic_4 ?_
  refine lv_iadd hx hb d_law_171 ?_
  refine l_sld hx hb hX hbl hbA hS ha4 d_law_172 ?_
  refine lv_aload_n hx hb d_law_173 rfl (lv_at hl 0 rfl) ?_
  refine lv_iload hx hb d_law_174 (lv_at hl 5 rfl) ?_
  refine lv_iconst (v := 5) hx hb d_law_176 ic_5 ?_
  refine lv_iadd hx hb d_law_177 ?_
  refine l_sld hx hb hX hbl hbA hS ha5 d_law_178 ?_
  refine lv_aload_n hx hb d_law_179 rfl (lv_at hl 3 rfl) ?_
  obtain ⟨x101, M102, e103, h⟩ := ob2 h
  refine l_cS C0 C1 C2 L_Law_96 (As := [.ref (G.2.2 + 0), .int a1, .int a2, .int a3, .int a4, .int a5, .ref (G.2.2 + 210)]) (c_Law_type l hst G 0 a1 a2 a3 a4 a5 210 e103) ⟨Nat.le_of_ble_eq_true rfl, Nat.le_of_ble_eq_true rfl⟩ hP hS rfl hl.1 rfl (Nat.le_of_ble_eq_true rfl) d_law_180 ⟨hcs.1, hcs.2⟩ (fun H locs hP hS => ?_)
  refine lv_istore (lv' := [(6, .int x101), (0, .ref b), (1, .ref (G.2.2 + 0)), (2, .ref (G.2.2 + 174)), (3, .ref (G.2.2 + 210)), (4, .ref (G.2.2 + 211)), (5, .int i)]) hx hb d_law_183 hl (by decide) rfl (fun ls hl => ?_)
  refine lv_aload_n hx hb d_law_185 rfl (lv_at hl 3 rfl) ?_
  refine lv_aload_n hx hb d_law_186 rfl (lv_at hl 1 rfl) ?_
  refine lv_iload hx hb d_law_187 (lv_at hl 6 rfl) ?_
  refine lv_iconst (v := 1) hx hb d_law_189 ic_1 ?_
  refine lv_iadd hx hb d_law_190 ?_
  refine l_sld hx hb hX hbl hbA hS ha1 d_law_191 ?_
  refine lv_aload_n hx hb d_law_192 rfl (lv_at hl 1 rfl) ?_
  refine lv_iload hx hb d_law_193 (lv_at hl 6 rfl) ?_
  refine lv_iconst (v := 2) hx hb d_law_195 ic_2 ?_
  refine lv_iadd hx hb d_law_196 ?_
  refine l_sld hx hb hX hbl hbA hS ha2 d_law_197 ?_
  refine lv_aload_n hx hb d_law_198 rfl (lv_at hl 1 rfl) ?_
  refine lv_iload hx hb d_law_199 (lv_at hl 6 rfl) ?_
  refine lv_iconst (v := 3) hx hb d_law_201 ic_3 ?_
  refine lv_iadd hx hb d_law_202 ?_
  refine l_sld hx hb hX hbl hbA hS ha3 d_law_203 ?_
  refine lv_aload_n hx hb d_law_204 rfl (lv_at hl 1 rfl) ?_
  refine lv_iload hx hb d_law_205 (lv_at hl 6 rfl) ?_
  refine lv_iconst (v := 4) hx hb d_law_207 ic_4 ?_
  refine lv_iadd hx hb d_law_208 ?_
  refine l_sld hx hb hX hbl hbA hS ha4 d_law_209 ?_
  refine lv_aload_n hx hb d_law_210 rfl (lv_at hl 1 rfl) ?_
  refine lv_iload hx hb d_law_211 (lv_at hl 6 rfl) ?_
  refine lv_iconst (v := 5) hx hb d_law_213 ic_5 ?_
  refine lv_iadd hx hb d_law_214 ?_
  refine l_sld hx hb hX hbl hbA hS ha5 d_law_215 ?_
  obtain ⟨_, e104, h⟩ := ob h
  obtain ⟨x107, M105, e106, h⟩ := ob2 h
  refine k_cV C0 L_Law_101 (As := [.int a1, .int a2, .int a3, .int a4, .int a5]) (c_Mo_type l G 174 a1 a2 a3 a4 a5 e106) ⟨rfl, rfl⟩ ⟨Nat.le_of_ble_eq_true rfl, Nat.le_of_ble_eq_true rfl⟩ hP hS (ck_of e104) ly_Mo rfl hl.1 rfl (Nat.le_of_ble_eq_true rfl) d_law_216 ⟨hcs.1, hcs.2⟩ (fun H locs hP hS => ?_)
  refine lv_istore (lv' := [(7, .int x107), (6, .int x101), (0, .ref b), (1, .ref (G.2.2 + 0)), (2, .ref (G.2.2 + 174)), (3, .ref (G.2.2 + 210)), (4, .ref (G.2.2 + 211)), (5, .int i)]) hx hb d_law_219 hl (by decide) rfl (fun ls hl => ?_)
  refine lv_aload_n hx hb d_law_221 rfl (lv_at hl 4 rfl) ?_
  obtain ⟨_, e108, h⟩ := ob h
  obtain ⟨x111, M109, e110, h⟩ := ob2 h
  refine k_cV C0 L_Law_102 (As := []) (c_Mo_thrown l G 174 e110) ⟨rfl, rfl⟩ ⟨Nat.le_of_ble_eq_true rfl, Nat.le_of_ble_eq_true rfl⟩ hP hS (ck_of e108) ly_Mo rfl hl.1 rfl (Nat.le_of_ble_eq_true rfl) d_law_222 ⟨hcs.1, hcs.2⟩ (fun H locs hP hS => ?_)
  refine lv_iload hx hb d_law_225 (lv_at hl 1 rfl) ?_
  refine lv_icmp_eq (tgt := 232) hx hb d_law_227 (by decide) (fun c112 => ?_) (fun c112 => ?_)
  · rw [if_pos c112] at h
    refine lv_iload hx hb d_law_232 (lv_at hl 1 rfl) ?_
    refine lv_if_ne (tgt := 249) hx hb d_law_234 (by decide) (fun c113 => ?_) (fun c113 => ?_)
    · rw [if_neg c113] at h
      refine lv_goto (tgt := 1556) hx hb d_law_249 (by decide) ?_
      cases h
      exact hk hP hS (lv_sub hl [2, 3, 4, 5, 6, 7] rfl)
    · rw [if_pos c113] at h
      refine lv_aload_n hx hb d_law_237 rfl (lv_at hl 5 rfl) ?_
      refine lv_iconst (v := 0) hx hb d_law_238 ic_0 ?_
      obtain ⟨x114, e115, h⟩ := ob h
      refine k_aj C0 hP e115 d_law_239 ?_
      refine lv_iload hx hb d_law_240 (lv_at hl 0 rfl) ?_
      refine lv_i2l hx hb d_law_242 rfl ?_
      refine W.lcmp hx hb d_law_243 ?_
      refine lv_if_eq (tgt := 249) hx hb d_law_244 (by decide) (fun c116 => ?_) (fun c116 => ?_)
      · rw [if_pos c116] at h
        refine lv_goto (tgt := 1556) hx hb d_law_249 (by decide) ?_
        cases h
        exact hk hP hS (lv_sub hl [2, 3, 4, 5, 6, 7] rfl)
      · rw [if_neg c116] at h
        refine lv_iconst (v := 0) hx hb d_law_247 ic_0 ?_
        cases h
  · rw [if_neg c112] at h
    refine lv_iconst (v := 0) hx hb d_law_230 ic_0 ?_
    cases h
def l_case1 (a1 : Int32) (M : fm_M) : Option fm_M :=
  bd (f_Law_size 0 a1 210 M) fun x101 M102 =>
  (ck 174 10).bind fun _ =>
  bd (f_Mo_size 174 a1 M102) fun x107 M105 =>
  (ck 174 10).bind fun _ =>
  bd (f_Mo_thrown 174 M105) fun x111 M109 =>
  if x111 = x101 then
    if x101 = 0 then
      (aj 210 0 M109).bind fun x114 =>
      if (lg_cmp x114 x107.toInt64) = 0 then
        some M109
      else
        none
    else
      some M109
  else
    none
set_option maxHeartbeats 4000000 in
set_option maxRecDepth 100000 in
theorem w_law_1 {p : Program} {l : Launch} {e : Env} {s : State} {m : MethodId} {below : List Frame} {meth : Method} {c : Code} {G : fm_G} {w0 : Cond} {b L : Nat} {xs : Nat → Int32} (C0 : fm_C p s m #[Value.ref b] meth c G w0 "AllocationProfilerLaw" code 9 (some .boolean)) (C1 : fx_S G s) (C2 : lx_S s) (hst : l.stackTraces = false) (hX : va_X b L xs s s.heap) (hbl : b < s.heap.size) (hbA : ¬ fm_A G.2.2 b) {cells slots : Nat} (hcs : cells + 1 ≤ 601024 ∧ slots + 6 ≤ 7293034) (i : Int32) (a1 : Int32) (ha1 : vp_in (i + 1) L ∧ xs (i + 1).toNatClampNeg = a1) {M M' : fm_M} {H : Heap} {locs : List Loc} (hP : kP G M H) (hS : kS G s H locs) {ls : Array Slot} (hl : lv_has ls 9 [(0, .ref b), (1, .ref (G.2.2 + 0)), (2, .ref (G.2.2 + 174)), (3, .ref (G.2.2 + 210)), (4, .ref (G.2.2 + 211)), (5, .int i)]) (h : l_case1 a1 M = some M')
    (hk : ∀ {H : Heap} {locs : List Loc}, kP G M' H → kS G s H locs → ∀ {ls : Array Slot}, lv_has ls 9 [(0, .ref b), (1, .ref (G.2.2 + 0)), (2, .ref (G.2.2 + 174)), (3, .ref (G.2.2 + 210)), (4, .ref (G.2.2 + 211)), (5, .int i)] → W p l e room_1 s m #[Value.ref b] below meth c H locs (cells + 1) (slots + 6) (lw_Z below #[Value.ref b] s) (F0 m 1556 ls [])) : W p l e room_1 s m #[Value.ref b] below meth c H locs cells slots (lw_Z below #[Value.ref b] s) (F0 m 252 ls []) := by
  have hx := C0.1
  have hb := C0.2.1
  unfold l_case1 at h
  refine lv_aload_n hx hb d_law_252 rfl (lv_at hl 1 rfl) ?_
  refine lv_aload_n hx hb d_law_253 rfl (lv_at hl 0 rfl) ?_
  refine lv_iload hx hb d_law_254 (lv_at hl 5 rfl) ?_
  refine lv_iconst (v := 1) hx hb d_law_256 ic_1 ?_
  refine lv_iadd hx hb d_law_257 ?_
  refine l_sld hx hb hX hbl hbA hS ha1 d_law_258 ?_
  refine lv_aload_n hx hb d_law_259 rfl (lv_at hl 3 rfl) ?_
  obtain ⟨x101, M102, e103, h⟩ := ob2 h
  refine l_cS C0 C1 C2 L_Law_105 (As := [.ref (G.2.2 + 0), .int a1, .ref (G.2.2 + 210)]) (c_Law_size l hst G 0 a1 210 e103) ⟨Nat.le_of_ble_eq_true rfl, Nat.le_of_ble_eq_true rfl⟩ hP hS rfl hl.1 rfl (Nat.le_of_ble_eq_true rfl) d_law_260 ⟨hcs.1, hcs.2⟩ (fun H locs hP hS => ?_)
  refine lv_istore (lv' := [(6, .int x101), (0, .ref b), (1, .ref (G.2.2 + 0)), (2, .ref (G.2.2 + 174)), (3, .ref (G.2.2 + 210)), (4, .ref (G.2.2 + 211)), (5, .int i)]) hx hb d_law_263 hl (by decide) rfl (fun ls hl => ?_)
  refine lv_aload_n hx hb d_law_265 rfl (lv_at hl 3 rfl) ?_
  refine lv_aload_n hx hb d_law_266 rfl (lv_at hl 1 rfl) ?_
  refine lv_iload hx hb d_law_267 (lv_at hl 6 rfl) ?_
  refine lv_iconst (v := 1) hx hb d_law_269 ic_1 ?_
  refine lv_iadd hx hb d_law_270 ?_
  refine l_sld hx hb hX hbl hbA hS ha1 d_law_271 ?_
  obtain ⟨_, e104, h⟩ := ob h
  obtain ⟨x107, M105, e106, h⟩ := ob2 h
  refine k_cV C0 L_Law_108 (As := [.int a1]) (c_Mo_size l G 174 a1 e106) ⟨rfl, rfl⟩ ⟨Nat.le_of_ble_eq_true rfl, Nat.le_of_ble_eq_true rfl⟩ hP hS (ck_of e104) ly_Mo rfl hl.1 rfl (Nat.le_of_ble_eq_true rfl) d_law_272 ⟨hcs.1, hcs.2⟩ (fun H locs hP hS => ?_)
  refine lv_istore (lv' := [(7, .int x107), (6, .int x101), (0, .ref b), (1, .ref (G.2.2 + 0)), (2, .ref (G.2.2 + 174)), (3, .ref (G.2.2 + 210)), (4, .ref (G.2.2 + 211)), (5, .int i)]) hx hb d_law_275 hl (by decide) rfl (fun ls hl => ?_)
  refine lv_aload_n hx hb d_law_277 rfl (lv_at hl 4 rfl) ?_
  obtain ⟨_, e108, h⟩ := ob h
  obtain ⟨x111, M109, e110, h⟩ := ob2 h
  refine k_cV C0 L_Law_102 (As := []) (c_Mo_thrown l G 174 e110) ⟨rfl, rfl⟩ ⟨Nat.le_of_ble_eq_true rfl, Nat.le_of_ble_eq_true rfl⟩ hP hS (ck_of e108) ly_Mo rfl hl.1 rfl (Nat.le_of_ble_eq_true rfl) d_law_278 ⟨hcs.1, hcs.2⟩ (fun H locs hP hS => ?_)
  refine lv_iload hx hb d_law_281 (lv_at hl 1 rfl) ?_
  refine lv_icmp_eq (tgt := 288) hx hb d_law_283 (by decide) (fun c112 => ?_) (fun c112 => ?_)
  · rw [if_pos c112] at h
    refine lv_iload hx hb d_law_288 (lv_at hl 1 rfl) ?_
    refine lv_if_ne (tgt := 305) hx hb d_law_290 (by decide) (fun c113 => ?_) (fun c113 => ?_)
    · rw [if_neg c113] at h
      refine lv_goto (tgt := 1556) hx hb d_law_305 (by decide) ?_
      cases h
      exact hk hP hS (lv_sub hl [2, 3, 4, 5, 6, 7] rfl)
    · rw [if_pos c113] at h
      refine lv_aload_n hx hb d_law_293 rfl (lv_at hl 5 rfl) ?_
      refine lv_iconst (v := 0) hx hb d_law_294 ic_0 ?_
      obtain ⟨x114, e115, h⟩ := ob h
      refine k_aj C0 hP e115 d_law_295 ?_
      refine lv_iload hx hb d_law_296 (lv_at hl 0 rfl) ?_
      refine lv_i2l hx hb d_law_298 rfl ?_
      refine W.lcmp hx hb d_law_299 ?_
      refine lv_if_eq (tgt := 305) hx hb d_law_300 (by decide) (fun c116 => ?_) (fun c116 => ?_)
      · rw [if_pos c116] at h
        refine lv_goto (tgt := 1556) hx hb d_law_305 (by decide) ?_
        cases h
        exact hk hP hS (lv_sub hl [2, 3, 4, 5, 6, 7] rfl)
      · rw [if_neg c116] at h
        refine lv_iconst (v := 0) hx hb d_law_303 ic_0 ?_
        cases h
  · rw [if_neg c112] at h
    refine lv_iconst (v := 0) hx hb d_law_286 ic_0 ?_
    cases h
def l_case2 (a1 : Int32) (a2 : Int32) (M : fm_M) : Option fm_M :=
  bd (f_Law_draft 0 a1 a2 210 M) fun x101 M102 =>
  (ck 174 10).bind fun _ =>
  bd (f_Mo_draft 174 a1 a2 M102) fun x107 M105 =>
  (ck 174 10).bind fun _ =>
  bd (f_Mo_thrown 174 M105) fun x111 M109 =>
  if x111 = x101 then
    if x101 = 0 then
      (aj 210 0 M109).bind fun x114 =>
      if (lg_cmp x114 x107.toInt64) = 0 then
        some M109
      else
        none
    else
      some M109
  else
    none
set_option maxHeartbeats 4000000 in
set_option maxRecDepth 100000 in
theorem w_law_2 {p : Program} {l : Launch} {e : Env} {s : State} {m : MethodId} {below : List Frame} {meth : Method} {c : Code} {G : fm_G} {w0 : Cond} {b L : Nat} {xs : Nat → Int32} (C0 : fm_C p s m #[Value.ref b] meth c G w0 "AllocationProfilerLaw" code 9 (some .boolean)) (C1 : fx_S G s) (C2 : lx_S s) (hst : l.stackTraces = false) (hX : va_X b L xs s s.heap) (hbl : b < s.heap.size) (hbA : ¬ fm_A G.2.2 b) {cells slots : Nat} (hcs : cells + 1 ≤ 601024 ∧ slots + 6 ≤ 7293034) (i : Int32) (a1 : Int32) (a2 : Int32) (ha1 : vp_in (i + 1) L ∧ xs (i + 1).toNatClampNeg = a1) (ha2 : vp_in (i + 2) L ∧ xs (i + 2).toNatClampNeg = a2) {M M' : fm_M} {H : Heap} {locs : List Loc} (hP : kP G M H) (hS : kS G s H locs) {ls : Array Slot} (hl : lv_has ls 9 [(0, .ref b), (1, .ref (G.2.2 + 0)), (2, .ref (G.2.2 + 174)), (3, .ref (G.2.2 + 210)), (4, .ref (G.2.2 + 211)), (5, .int i)]) (h : l_case2 a1 a2 M = some M')
    (hk : ∀ {H : Heap} {locs : List Loc}, kP G M' H → kS G s H locs → ∀ {ls : Array Slot}, lv_has ls 9 [(0, .ref b), (1, .ref (G.2.2 + 0)), (2, .ref (G.2.2 + 174)), (3, .ref (G.2.2 + 210)), (4, .ref (G.2.2 + 211)), (5, .int i)] → W p l e room_1 s m #[Value.ref b] below meth c H locs (cells + 1) (slots + 6) (lw_Z below #[Value.ref b] s) (F0 m 1556 ls [])) : W p l e room_1 s m #[Value.ref b] below meth c H locs cells slots (lw_Z below #[Value.ref b] s) (F0 m 308 ls []) := by
  have hx := C0.1
  have hb := C0.2.1
  unfold l_case2 at h
  refine lv_aload_n hx hb d_law_308 rfl (lv_at hl 1 rfl) ?_
  refine lv_aload_n hx hb d_law_309 rfl (lv_at hl 0 rfl) ?_
  refine lv_iload hx hb d_law_310 (lv_at hl 5 rfl) ?_
  refine lv_iconst (v := 1) hx hb d_law_312 ic_1 ?_
  refine lv_iadd hx hb d_law_313 ?_
  refine l_sld hx hb hX hbl hbA hS ha1 d_law_314 ?_
  refine lv_aload_n hx hb d_law_315 rfl (lv_at hl 0 rfl) ?_
  refine lv_iload hx hb d_law_316 (lv_at hl 5 rfl) ?_
  refine lv_iconst (v := 2) hx hb d_law_318 ic_2 ?_
  refine lv_iadd hx hb d_law_319 ?_
  refine l_sld hx hb hX hbl hbA hS ha2 d_law_320 ?_
  refine lv_aload_n hx hb d_law_321 rfl (lv_at hl 3 rfl) ?_
  obtain ⟨x101, M102, e103, h⟩ := ob2 h
  refine l_cS C0 C1 C2 L_Law_109 (As := [.ref (G.2.2 + 0), .int a1, .int a2, .ref (G.2.2 + 210)]) (c_Law_draft l hst G 0 a1 a2 210 e103) ⟨Nat.le_of_ble_eq_true rfl, Nat.le_of_ble_eq_true rfl⟩ hP hS rfl hl.1 rfl (Nat.le_of_ble_eq_true rfl) d_law_322 ⟨hcs.1, hcs.2⟩ (fun H locs hP hS => ?_)
  refine lv_istore (lv' := [(6, .int x101), (0, .ref b), (1, .ref (G.2.2 + 0)), (2, .ref (G.2.2 + 174)), (3, .ref (G.2.2 + 210)), (4, .ref (G.2.2 + 211)), (5, .int i)]) hx hb d_law_325 hl (by decide) rfl (fun ls hl => ?_)
  refine lv_aload_n hx hb d_law_327 rfl (lv_at hl 3 rfl) ?_
  refine lv_aload_n hx hb d_law_328 rfl (lv_at hl 1 rfl) ?_
  refine lv_iload hx hb d_law_329 (lv_at hl 6 rfl) ?_
  refine lv_iconst (v := 1) hx hb d_law_331 ic_1 ?_
  refine lv_iadd hx hb d_law_332 ?_
  refine l_sld hx hb hX hbl hbA hS ha1 d_law_333 ?_
  refine lv_aload_n hx hb d_law_334 rfl (lv_at hl 1 rfl) ?_
  refine lv_iload hx hb d_law_335 (lv_at hl 6 rfl) ?_
  refine lv_iconst (v := 2) hx hb d_law_337 ic_2 ?_
  refine lv_iadd hx hb d_law_338 ?_
  refine l_sld hx hb hX hbl hbA hS ha2 d_law_339 ?_
  obtain ⟨_, e104, h⟩ := ob h
  obtain ⟨x107, M105, e106, h⟩ := ob2 h
  refine k_cV C0 L_Law_112 (As := [.int a1, .int a2]) (c_Mo_draft l G 174 a1 a2 e106) ⟨rfl, rfl⟩ ⟨Nat.le_of_ble_eq_true rfl, Nat.le_of_ble_eq_true rfl⟩ hP hS (ck_of e104) ly_Mo rfl hl.1 rfl (Nat.le_of_ble_eq_true rfl) d_law_340 ⟨hcs.1, hcs.2⟩ (fun H locs hP hS => ?_)
  refine lv_istore (lv' := [(7, .int x107), (6, .int x101), (0, .ref b), (1, .ref (G.2.2 + 0)), (2, .ref (G.2.2 + 174)), (3, .ref (G.2.2 + 210)), (4, .ref (G.2.2 + 211)), (5, .int i)]) hx hb d_law_343 hl (by decide) rfl (fun ls hl => ?_)
  refine lv_aload_n hx hb d_law_345 rfl (lv_at hl 4 rfl) ?_
  obtain ⟨_, e108, h⟩ := ob h
  obtain ⟨x111, M109, e110, h⟩ := ob2 h
  refine k_cV C0 L_Law_102 (As := []) (c_Mo_thrown l G 174 e110) ⟨rfl, rfl⟩ ⟨Nat.le_of_ble_eq_true rfl, Nat.le_of_ble_eq_true rfl⟩ hP hS (ck_of e108) ly_Mo rfl hl.1 rfl (Nat.le_of_ble_eq_true rfl) d_law_346 ⟨hcs.1, hcs.2⟩ (fun H locs hP hS => ?_)
  refine lv_iload hx hb d_law_349 (lv_at hl 1 rfl) ?_
  refine lv_icmp_eq (tgt := 356) hx hb d_law_351 (by decide) (fun c112 => ?_) (fun c112 => ?_)
  · rw [if_pos c112] at h
    refine lv_iload hx hb d_law_356 (lv_at hl 1 rfl) ?_
    refine lv_if_ne (tgt := 373) hx hb d_law_358 (by decide) (fun c113 => ?_) (fun c113 => ?_)
    · rw [if_neg c113] at h
      refine lv_goto (tgt := 1556) hx hb d_law_373 (by decide) ?_
      cases h
      exact hk hP hS (lv_sub hl [2, 3, 4, 5, 6, 7] rfl)
    · rw [if_pos c113] at h
      refine lv_aload_n hx hb d_law_361 rfl (lv_at hl 5 rfl) ?_
      refine lv_iconst (v := 0) hx hb d_law_362 ic_0 ?_
      obtain ⟨x114, e115, h⟩ := ob h
      refine k_aj C0 hP e115 d_law_363 ?_
      refine lv_iload hx hb d_law_364 (lv_at hl 0 rfl) ?_
      refine lv_i2l hx hb d_law_366 rfl ?_
      refine W.lcmp hx hb d_law_367 ?_
      refine lv_if_eq (tgt := 373) hx hb d_law_368 (by decide) (fun c116 => ?_) (fun c116 => ?_)
      · rw [if_pos c116] at h
        refine lv_goto (tgt := 1556) hx hb d_law_373 (by decide) ?_
        cases h
        exact hk hP hS (lv_sub hl [2, 3, 4, 5, 6, 7] rfl)
      · rw [if_neg c116] at h
        refine lv_iconst (v := 0) hx hb d_law_371 ic_0 ?_
        cases h
  · rw [if_neg c112] at h
    refine lv_iconst (v := 0) hx hb d_law_354 ic_0 ?_
    cases h
def l_case3 (a1 : Int32) (a2 : Int32) (a3 : Int32) (M : fm_M) : Option fm_M :=
  bd (f_Law_range 0 a1 a2 a3 210 M) fun x101 M102 =>
  (ck 174 10).bind fun _ =>
  bd (f_Mo_range 174 a1 a2 a3 M102) fun x107 M105 =>
  (ck 174 10).bind fun _ =>
  bd (f_Mo_thrown 174 M105) fun x111 M109 =>
  if x111 = x101 then
    if x101 = 0 then
      (aj 210 0 M109).bind fun x114 =>
      if (lg_cmp x114 x107.toInt64) = 0 then
        some M109
      else
        none
    else
      some M109
  else
    none
set_option maxHeartbeats 4000000 in
set_option maxRecDepth 100000 in
theorem w_law_3 {p : Program} {l : Launch} {e : Env} {s : State} {m : MethodId} {below : List Frame} {meth : Method} {c : Code} {G : fm_G} {w0 : Cond} {b L : Nat} {xs : Nat → Int32} (C0 : fm_C p s m #[Value.ref b] meth c G w0 "AllocationProfilerLaw" code 9 (some .boolean)) (C1 : fx_S G s) (C2 : lx_S s) (hst : l.stackTraces = false) (hX : va_X b L xs s s.heap) (hbl : b < s.heap.size) (hbA : ¬ fm_A G.2.2 b) {cells slots : Nat} (hcs : cells + 1 ≤ 601024 ∧ slots + 6 ≤ 7293034) (i : Int32) (a1 : Int32) (a2 : Int32) (a3 : Int32) (ha1 : vp_in (i + 1) L ∧ xs (i + 1).toNatClampNeg = a1) (ha2 : vp_in (i + 2) L ∧ xs (i + 2).toNatClampNeg = a2) (ha3 : vp_in (i + 3) L ∧ xs (i + 3).toNatClampNeg = a3) {M M' : fm_M} {H : Heap} {locs : List Loc} (hP : kP G M H) (hS : kS G s H locs) {ls : Array Slot} (hl : lv_has ls 9 [(0, .ref b), (1, .ref (G.2.2 + 0)), (2, .ref (G.2.2 + 174)), (3, .ref (G.2.2 + 210)), (4, .ref (G.2.2 + 211)), (5, .int i)]) (h : l_case3 a1 a2 a3 M = some M')
    (hk : ∀ {H : Heap} {locs : List Loc}, kP G M' H → kS G s H locs → ∀ {ls : Array Slot}, lv_has ls 9 [(0, .ref b), (1, .ref (G.2.2 + 0)), (2, .ref (G.2.2 + 174)), (3, .ref (G.2.2 + 210)), (4, .ref (G.2.2 + 211)), (5, .int i)] → W p l e room_1 s m #[Value.ref b] below meth c H locs (cells + 1) (slots + 6) (lw_Z below #[Value.ref b] s) (F0 m 1556 ls [])) : W p l e room_1 s m #[Value.ref b] below meth c H locs cells slots (lw_Z below #[Value.ref b] s) (F0 m 376 ls []) := by
  have hx := C0.1
  have hb := C0.2.1
  unfold l_case3 at h
  refine lv_aload_n hx hb d_law_376 rfl (lv_at hl 1 rfl) ?_
  refine lv_aload_n hx hb d_law_377 rfl (lv_at hl 0 rfl) ?_
  refine lv_iload hx hb d_law_378 (lv_at hl 5 rfl) ?_
  refine lv_iconst (v := 1) hx hb d_law_380 ic_1 ?_
  refine lv_iadd hx hb d_law_381 ?_
  refine l_sld hx hb hX hbl hbA hS ha1 d_law_382 ?_
  refine lv_aload_n hx hb d_law_383 rfl (lv_at hl 0 rfl) ?_
  refine lv_iload hx hb d_law_384 (lv_at hl 5 rfl) ?_
  refine lv_iconst (v := 2) hx hb d_law_386 ic_2 ?_
  refine lv_iadd hx hb d_law_387 ?_
  refine l_sld hx hb hX hbl hbA hS ha2 d_law_388 ?_
  refine lv_aload_n hx hb d_law_389 rfl (lv_at hl 0 rfl) ?_
  refine lv_iload hx hb d_law_390 (lv_at hl 5 rfl) ?_
  refine lv_iconst (v := 3) hx hb d_law_392 ic_3 ?_
  refine lv_iadd hx hb d_law_393 ?_
  refine l_sld hx hb hX hbl hbA hS ha3 d_law_394 ?_
  refine lv_aload_n hx hb d_law_395 rfl (lv_at hl 3 rfl) ?_
  obtain ⟨x101, M102, e103, h⟩ := ob2 h
  refine l_cS C0 C1 C2 L_Law_113 (As := [.ref (G.2.2 + 0), .int a1, .int a2, .int a3, .ref (G.2.2 + 210)]) (c_Law_range l hst G 0 a1 a2 a3 210 e103) ⟨Nat.le_of_ble_eq_true rfl, Nat.le_of_ble_eq_true rfl⟩ hP hS rfl hl.1 rfl (Nat.le_of_ble_eq_true rfl) d_law_396 ⟨hcs.1, hcs.2⟩ (fun H locs hP hS => ?_)
  refine lv_istore (lv' := [(6, .int x101), (0, .ref b), (1, .ref (G.2.2 + 0)), (2, .ref (G.2.2 + 174)), (3, .ref (G.2.2 + 210)), (4, .ref (G.2.2 + 211)), (5, .int i)]) hx hb d_law_399 hl (by decide) rfl (fun ls hl => ?_)
  refine lv_aload_n hx hb d_law_401 rfl (lv_at hl 3 rfl) ?_
  refine lv_aload_n hx hb d_law_402 rfl (lv_at hl 1 rfl) ?_
  refine lv_iload hx hb d_law_403 (lv_at hl 6 rfl) ?_
  refine lv_iconst (v := 1) hx hb d_law_405 ic_1 ?_
  refine lv_iadd hx hb d_law_406 ?_
  refine l_sld hx hb hX hbl hbA hS ha1 d_law_407 ?_
  refine lv_aload_n hx hb d_law_408 rfl (lv_at hl 1 rfl) ?_
  refine lv_iload hx hb d_law_409 (lv_at hl 6 rfl) ?_
  refine lv_iconst (v := 2) hx hb d_law_411 ic_2 ?_
  refine lv_iadd hx hb d_law_412 ?_
  refine l_sld hx hb hX hbl hbA hS ha2 d_law_413 ?_
  refine lv_aload_n hx hb d_law_414 rfl (lv_at hl 1 rfl) ?_
  refine lv_iload hx hb d_law_415 (lv_at hl 6 rfl) ?_
  refine lv_iconst (v := 3) hx hb d_law_417 ic_3 ?_
  refine lv_iadd hx hb d_law_418 ?_
  refine l_sld hx hb hX hbl hbA hS ha3 d_law_419 ?_
  obtain ⟨_, e104, h⟩ := ob h
  obtain ⟨x107, M105, e106, h⟩ := ob2 h
  refine k_cV C0 L_Law_116 (As := [.int a1, .int a2, .int a3]) (c_Mo_range l G 174 a1 a2 a3 e106) ⟨rfl, rfl⟩ ⟨Nat.le_of_ble_eq_true rfl, Nat.le_of_ble_eq_true rfl⟩ hP hS (ck_of e104) ly_Mo rfl hl.1 rfl (Nat.le_of_ble_eq_true rfl) d_law_420 ⟨hcs.1, hcs.2⟩ (fun H locs hP hS => ?_)
  refine lv_istore (lv' := [(7, .int x107), (6, .int x101), (0, .ref b), (1, .ref (G.2.2 + 0)), (2, .ref (G.2.2 + 174)), (3, .ref (G.2.2 + 210)), (4, .ref (G.2.2 + 211)), (5, .int i)]) hx hb d_law_423 hl (by decide) rfl (fun ls hl => ?_)
  refine lv_aload_n hx hb d_law_425 rfl (lv_at hl 4 rfl) ?_
  obtain ⟨_, e108, h⟩ := ob h
  obtain ⟨x111, M109, e110, h⟩ := ob2 h
  refine k_cV C0 L_Law_102 (As := []) (c_Mo_thrown l G 174 e110) ⟨rfl, rfl⟩ ⟨Nat.le_of_ble_eq_true rfl, Nat.le_of_ble_eq_true rfl⟩ hP hS (ck_of e108) ly_Mo rfl hl.1 rfl (Nat.le_of_ble_eq_true rfl) d_law_426 ⟨hcs.1, hcs.2⟩ (fun H locs hP hS => ?_)
  refine lv_iload hx hb d_law_429 (lv_at hl 1 rfl) ?_
  refine lv_icmp_eq (tgt := 436) hx hb d_law_431 (by decide) (fun c112 => ?_) (fun c112 => ?_)
  · rw [if_pos c112] at h
    refine lv_iload hx hb d_law_436 (lv_at hl 1 rfl) ?_
    refine lv_if_ne (tgt := 453) hx hb d_law_438 (by decide) (fun c113 => ?_) (fun c113 => ?_)
    · rw [if_neg c113] at h
      refine lv_goto (tgt := 1556) hx hb d_law_453 (by decide) ?_
      cases h
      exact hk hP hS (lv_sub hl [2, 3, 4, 5, 6, 7] rfl)
    · rw [if_pos c113] at h
      refine lv_aload_n hx hb d_law_441 rfl (lv_at hl 5 rfl) ?_
      refine lv_iconst (v := 0) hx hb d_law_442 ic_0 ?_
      obtain ⟨x114, e115, h⟩ := ob h
      refine k_aj C0 hP e115 d_law_443 ?_
      refine lv_iload hx hb d_law_444 (lv_at hl 0 rfl) ?_
      refine lv_i2l hx hb d_law_446 rfl ?_
      refine W.lcmp hx hb d_law_447 ?_
      refine lv_if_eq (tgt := 453) hx hb d_law_448 (by decide) (fun c116 => ?_) (fun c116 => ?_)
      · rw [if_pos c116] at h
        refine lv_goto (tgt := 1556) hx hb d_law_453 (by decide) ?_
        cases h
        exact hk hP hS (lv_sub hl [2, 3, 4, 5, 6, 7] rfl)
      · rw [if_neg c116] at h
        refine lv_iconst (v := 0) hx hb d_law_451 ic_0 ?_
        cases h
  · rw [if_neg c112] at h
    refine lv_iconst (v := 0) hx hb d_law_434 ic_0 ?_
    cases h
def l_case4  (M : fm_M) : Option fm_M :=
  bd (f_Law_define 0 210 M) fun x101 M102 =>
  (ck 174 10).bind fun _ =>
  bd (f_Mo_define 174 M102) fun x107 M105 =>
  (ck 174 10).bind fun _ =>
  bd (f_Mo_thrown 174 M105) fun x111 M109 =>
  if x111 = x101 then
    if x101 = 0 then
      (aj 210 0 M109).bind fun x114 =>
      if (lg_cmp x114 x107.toInt64) = 0 then
        some M109
      else
        none
    else
      some M109
  else
    none
set_option maxHeartbeats 4000000 in
set_option maxRecDepth 100000 in
theorem w_law_4 {p : Program} {l : Launch} {e : Env} {s : State} {m : MethodId} {below : List Frame} {meth : Method} {c : Code} {G : fm_G} {w0 : Cond} {b L : Nat} {xs : Nat → Int32} (C0 : fm_C p s m #[Value.ref b] meth c G w0 "AllocationProfilerLaw" code 9 (some .boolean)) (C1 : fx_S G s) (C2 : lx_S s) (hst : l.stackTraces = false) (hX : va_X b L xs s s.heap) (hbl : b < s.heap.size) (hbA : ¬ fm_A G.2.2 b) {cells slots : Nat} (hcs : cells + 1 ≤ 601024 ∧ slots + 6 ≤ 7293034) (i : Int32)   {M M' : fm_M} {H : Heap} {locs : List Loc} (hP : kP G M H) (hS : kS G s H locs) {ls : Array Slot} (hl : lv_has ls 9 [(0, .ref b), (1, .ref (G.2.2 + 0)), (2, .ref (G.2.2 + 174)), (3, .ref (G.2.2 + 210)), (4, .ref (G.2.2 + 211)), (5, .int i)]) (h : l_case4  M = some M')
    (hk : ∀ {H : Heap} {locs : List Loc}, kP G M' H → kS G s H locs → ∀ {ls : Array Slot}, lv_has ls 9 [(0, .ref b), (1, .ref (G.2.2 + 0)), (2, .ref (G.2.2 + 174)), (3, .ref (G.2.2 + 210)), (4, .ref (G.2.2 + 211)), (5, .int i)] → W p l e room_1 s m #[Value.ref b] below meth c H locs (cells + 1) (slots + 6) (lw_Z below #[Value.ref b] s) (F0 m 1556 ls [])) : W p l e room_1 s m #[Value.ref b] below meth c H locs cells slots (lw_Z below #[Value.ref b] s) (F0 m 456 ls []) := by
  have hx := C0.1
  have hb := C0.2.1
  unfold l_case4 at h
  refine lv_aload_n hx hb d_law_456 rfl (lv_at hl 1 rfl) ?_
  refine lv_aload_n hx hb d_law_457 rfl (lv_at hl 3 rfl) ?_
  obtain ⟨x101, M102, e103, h⟩ := ob2 h
  refine l_cS C0 C1 C2 L_Law_117 (As := [.ref (G.2.2 + 0), .ref (G.2.2 + 210)]) (c_Law_define l hst G 0 210 e103) ⟨Nat.le_of_ble_eq_true rfl, Nat.le_of_ble_eq_true rfl⟩ hP hS rfl hl.1 rfl (Nat.le_of_ble_eq_true rfl) d_law_458 ⟨hcs.1, hcs.2⟩ (fun H locs hP hS => ?_)
  refine lv_istore (lv' := [(6, .int x101), (0, .ref b), (1, .ref (G.2.2 + 0)), (2, .ref (G.2.2 + 174)), (3, .ref (G.2.2 + 210)), (4, .ref (G.2.2 + 211)), (5, .int i)]) hx hb d_law_461 hl (by decide) rfl (fun ls hl => ?_)
  refine lv_aload_n hx hb d_law_463 rfl (lv_at hl 3 rfl) ?_
  obtain ⟨_, e104, h⟩ := ob h
  obtain ⟨x107, M105, e106, h⟩ := ob2 h
  refine k_cV C0 L_Law_120 (As := []) (c_Mo_define l G 174 e106) ⟨rfl, rfl⟩ ⟨Nat.le_of_ble_eq_true rfl, Nat.le_of_ble_eq_true rfl⟩ hP hS (ck_of e104) ly_Mo rfl hl.1 rfl (Nat.le_of_ble_eq_true rfl) d_law_464 ⟨hcs.1, hcs.2⟩ (fun H locs hP hS => ?_)
  refine lv_istore (lv' := [(7, .int x107), (6, .int x101), (0, .ref b), (1, .ref (G.2.2 + 0)), (2, .ref (G.2.2 + 174)), (3, .ref (G.2.2 + 210)), (4, .ref (G.2.2 + 211)), (5, .int i)]) hx hb d_law_467 hl (by decide) rfl (fun ls hl => ?_)
  refine lv_aload_n hx hb d_law_469 rfl (lv_at hl 4 rfl) ?_
  obtain ⟨_, e108, h⟩ := ob h
  obtain ⟨x111, M109, e110, h⟩ := ob2 h
  refine k_cV C0 L_Law_102 (As := []) (c_Mo_thrown l G 174 e110) ⟨rfl, rfl⟩ ⟨Nat.le_of_ble_eq_true rfl, Nat.le_of_ble_eq_true rfl⟩ hP hS (ck_of e108) ly_Mo rfl hl.1 rfl (Nat.le_of_ble_eq_true rfl) d_law_470 ⟨hcs.1, hcs.2⟩ (fun H locs hP hS => ?_)
  refine lv_iload hx hb d_law_473 (lv_at hl 1 rfl) ?_
  refine lv_icmp_eq (tgt := 480) hx hb d_law_475 (by decide) (fun c112 => ?_) (fun c112 => ?_)
  · rw [if_pos c112] at h
    refine lv_iload hx hb d_law_480 (lv_at hl 1 rfl) ?_
    refine lv_if_ne (tgt := 497) hx hb d_law_482 (by decide) (fun c113 => ?_) (fun c113 => ?_)
    · rw [if_neg c113] at h
      refine lv_goto (tgt := 1556) hx hb d_law_497 (by decide) ?_
      cases h
      exact hk hP hS (lv_sub hl [2, 3, 4, 5, 6, 7] rfl)
    · rw [if_pos c113] at h
      refine lv_aload_n hx hb d_law_485 rfl (lv_at hl 5 rfl) ?_
      refine lv_iconst (v := 0) hx hb d_law_486 ic_0 ?_
      obtain ⟨x114, e115, h⟩ := ob h
      refine k_aj C0 hP e115 d_law_487 ?_
      refine lv_iload hx hb d_law_488 (lv_at hl 0 rfl) ?_
      refine lv_i2l hx hb d_law_490 rfl ?_
      refine W.lcmp hx hb d_law_491 ?_
      refine lv_if_eq (tgt := 497) hx hb d_law_492 (by decide) (fun c116 => ?_) (fun c116 => ?_)
      · rw [if_pos c116] at h
        refine lv_goto (tgt := 1556) hx hb d_law_497 (by decide) ?_
        cases h
        exact hk hP hS (lv_sub hl [2, 3, 4, 5, 6, 7] rfl)
      · rw [if_neg c116] at h
        refine lv_iconst (v := 0) hx hb d_law_495 ic_0 ?_
        cases h
  · rw [if_neg c112] at h
    refine lv_iconst (v := 0) hx hb d_law_478 ic_0 ?_
    cases h
def l_case5  (M : fm_M) : Option fm_M :=
  (ck 0 9).bind fun _ =>
  bd (f_AP_fault 0 M) fun x104 M102 =>
  (ck 174 10).bind fun _ =>
  bd (f_Mo_fault 174 M102) fun x108 M106 =>
  if x104 = x108 then
    some M106
  else
    none
set_option maxHeartbeats 4000000 in
set_option maxRecDepth 100000 in
theorem w_law_5 {p : Program} {l : Launch} {e : Env} {s : State} {m : MethodId} {below : List Frame} {meth : Method} {c : Code} {G : fm_G} {w0 : Cond} {b L : Nat} {xs : Nat → Int32} (C0 : fm_C p s m #[Value.ref b] meth c G w0 "AllocationProfilerLaw" code 9 (some .boolean)) (C1 : fx_S G s) (C2 : lx_S s) (hst : l.stackTraces = false) (hX : va_X b L xs s s.heap) (hbl : b < s.heap.size) (hbA : ¬ fm_A G.2.2 b) {cells slots : Nat} (hcs : cells + 1 ≤ 601024 ∧ slots + 6 ≤ 7293034) (i : Int32)   {M M' : fm_M} {H : Heap} {locs : List Loc} (hP : kP G M H) (hS : kS G s H locs) {ls : Array Slot} (hl : lv_has ls 9 [(0, .ref b), (1, .ref (G.2.2 + 0)), (2, .ref (G.2.2 + 174)), (3, .ref (G.2.2 + 210)), (4, .ref (G.2.2 + 211)), (5, .int i)]) (h : l_case5  M = some M')
    (hk : ∀ {H : Heap} {locs : List Loc}, kP G M' H → kS G s H locs → ∀ {ls : Array Slot}, lv_has ls 9 [(0, .ref b), (1, .ref (G.2.2 + 0)), (2, .ref (G.2.2 + 174)), (3, .ref (G.2.2 + 210)), (4, .ref (G.2.2 + 211)), (5, .int i)] → W p l e room_1 s m #[Value.ref b] below meth c H locs (cells + 1) (slots + 6) (lw_Z below #[Value.ref b] s) (F0 m 1556 ls [])) : W p l e room_1 s m #[Value.ref b] below meth c H locs cells slots (lw_Z below #[Value.ref b] s) (F0 m 500 ls []) := by
  have hx := C0.1
  have hb := C0.2.1
  unfold l_case5 at h
  refine lv_aload_n hx hb d_law_500 rfl (lv_at hl 1 rfl) ?_
  obtain ⟨_, e101, h⟩ := ob h
  obtain ⟨x104, M102, e103, h⟩ := ob2 h
  refine k_cV C0 L_Law_121 (As := []) (c_AP_fault l G 0 e103) ⟨rfl, rfl⟩ ⟨Nat.le_of_ble_eq_true rfl, Nat.le_of_ble_eq_true rfl⟩ hP hS (ck_of e101) ly_AP rfl hl.1 rfl (Nat.le_of_ble_eq_true rfl) d_law_501 ⟨Nat.le_trans (Nat.le_add_right _ _) hcs.1, Nat.le_trans (Nat.le_add_right _ _) hcs.2⟩ (fun H locs hP hS => ?_)
  refine lv_aload_n hx hb d_law_504 rfl (lv_at hl 2 rfl) ?_
  obtain ⟨_, e105, h⟩ := ob h
  obtain ⟨x108, M106, e107, h⟩ := ob2 h
  refine k_cV C0 L_Law_124 (As := []) (c_Mo_fault l G 174 e107) ⟨rfl, rfl⟩ ⟨Nat.le_of_ble_eq_true rfl, Nat.le_of_ble_eq_true rfl⟩ hP hS (ck_of e105) ly_Mo rfl hl.1 rfl (Nat.le_of_ble_eq_true rfl) d_law_505 ⟨Nat.le_trans (Nat.le_add_right _ _) hcs.1, Nat.le_trans (Nat.le_add_right _ _) hcs.2⟩ (fun H locs hP hS => ?_)
  refine lv_icmp_eq (tgt := 1556) hx hb d_law_508 (by decide) (fun c109 => ?_) (fun c109 => ?_)
  · rw [if_pos c109] at h
    cases h
    refine W.widen (k := cells + 1) (n := slots + 6) (Nat.le_add_right _ _) (Nat.le_add_right _ _) ?_
    exact hk hP hS (lv_sub hl [0, 1, 2, 3, 4, 5] rfl)
  · rw [if_neg c109] at h
    refine lv_iconst (v := 0) hx hb d_law_511 ic_0 ?_
    cases h
def l_case6 (a1 : Int32) (M : fm_M) : Option fm_M :=
  bd (f_Law_exclude 0 a1 M) fun x101 M102 =>
  (ck 174 10).bind fun _ =>
  (f_Mo_exclude 174 a1 M102).bind fun M105 =>
  (ck 174 10).bind fun _ =>
  bd (f_Mo_thrown 174 M105) fun x110 M108 =>
  if x110 = x101 then
    some M108
  else
    none
set_option maxHeartbeats 4000000 in
set_option maxRecDepth 100000 in
theorem w_law_6 {p : Program} {l : Launch} {e : Env} {s : State} {m : MethodId} {below : List Frame} {meth : Method} {c : Code} {G : fm_G} {w0 : Cond} {b L : Nat} {xs : Nat → Int32} (C0 : fm_C p s m #[Value.ref b] meth c G w0 "AllocationProfilerLaw" code 9 (some .boolean)) (C1 : fx_S G s) (C2 : lx_S s) (hst : l.stackTraces = false) (hX : va_X b L xs s s.heap) (hbl : b < s.heap.size) (hbA : ¬ fm_A G.2.2 b) {cells slots : Nat} (hcs : cells + 1 ≤ 601024 ∧ slots + 6 ≤ 7293034) (i : Int32) (a1 : Int32) (ha1 : vp_in (i + 1) L ∧ xs (i + 1).toNatClampNeg = a1) {M M' : fm_M} {H : Heap} {locs : List Loc} (hP : kP G M H) (hS : kS G s H locs) {ls : Array Slot} (hl : lv_has ls 9 [(0, .ref b), (1, .ref (G.2.2 + 0)), (2, .ref (G.2.2 + 174)), (3, .ref (G.2.2 + 210)), (4, .ref (G.2.2 + 211)), (5, .int i)]) (h : l_case6 a1 M = some M')
    (hk : ∀ {H : Heap} {locs : List Loc}, kP G M' H → kS G s H locs → ∀ {ls : Array Slot}, lv_has ls 9 [(0, .ref b), (1, .ref (G.2.2 + 0)), (2, .ref (G.2.2 + 174)), (3, .ref (G.2.2 + 210)), (4, .ref (G.2.2 + 211)), (5, .int i)] → W p l e room_1 s m #[Value.ref b] below meth c H locs (cells + 1) (slots + 6) (lw_Z below #[Value.ref b] s) (F0 m 1556 ls [])) : W p l e room_1 s m #[Value.ref b] below meth c H locs cells slots (lw_Z below #[Value.ref b] s) (F0 m 513 ls []) := by
  have hx := C0.1
  have hb := C0.2.1
  unfold l_case6 at h
  refine lv_aload_n hx hb d_law_513 rfl (lv_at hl 1 rfl) ?_
  refine lv_aload_n hx hb d_law_514 rfl (lv_at hl 0 rfl) ?_
  refine lv_iload hx hb d_law_515 (lv_at hl 5 rfl) ?_
  refine lv_iconst (v := 1) hx hb d_law_517 ic_1 ?_
  refine lv_iadd hx hb d_law_518 ?_
  refine l_sld hx hb hX hbl hbA hS ha1 d_law_519 ?_
  obtain ⟨x101, M102, e103, h⟩ := ob2 h
  refine l_cS C0 C1 C2 L_Law_125 (As := [.ref (G.2.2 + 0), .int a1]) (c_Law_exclude l hst G 0 a1 e103) ⟨Nat.le_of_ble_eq_true rfl, Nat.le_of_ble_eq_true rfl⟩ hP hS rfl hl.1 rfl (Nat.le_of_ble_eq_true rfl) d_law_520 ⟨hcs.1, hcs.2⟩ (fun H locs hP hS => ?_)
  refine lv_istore (lv' := [(6, .int x101), (0, .ref b), (1, .ref (G.2.2 + 0)), (2, .ref (G.2.2 + 174)), (3, .ref (G.2.2 + 210)), (4, .ref (G.2.2 + 211)), (5, .int i)]) hx hb d_law_523 hl (by decide) rfl (fun ls hl => ?_)
  refine lv_aload_n hx hb d_law_525 rfl (lv_at hl 3 rfl) ?_
  refine lv_aload_n hx hb d_law_526 rfl (lv_at hl 1 rfl) ?_
  refine lv_iload hx hb d_law_527 (lv_at hl 6 rfl) ?_
  refine lv_iconst (v := 1) hx hb d_law_529 ic_1 ?_
  refine lv_iadd hx hb d_law_530 ?_
  refine l_sld hx hb hX hbl hbA hS ha1 d_law_531 ?_
  obtain ⟨_, e104, h⟩ := ob h
  obtain ⟨M105, e106, h⟩ := ob h
  refine k_cVv C0 L_Law_128 (As := [.int a1]) (c_Mo_exclude l G 174 a1 e106) ⟨rfl, rfl⟩ ⟨Nat.le_of_ble_eq_true rfl, Nat.le_of_ble_eq_true rfl⟩ hP hS (ck_of e104) ly_Mo rfl hl.1 rfl (Nat.le_of_ble_eq_true rfl) d_law_532 ⟨hcs.1, hcs.2⟩ (fun H locs hP hS => ?_)
  refine lv_aload_n hx hb d_law_535 rfl (lv_at hl 3 rfl) ?_
  obtain ⟨_, e107, h⟩ := ob h
  obtain ⟨x110, M108, e109, h⟩ := ob2 h
  refine k_cV C0 L_Law_102 (As := []) (c_Mo_thrown l G 174 e109) ⟨rfl, rfl⟩ ⟨Nat.le_of_ble_eq_true rfl, Nat.le_of_ble_eq_true rfl⟩ hP hS (ck_of e107) ly_Mo rfl hl.1 rfl (Nat.le_of_ble_eq_true rfl) d_law_536 ⟨hcs.1, hcs.2⟩ (fun H locs hP hS => ?_)
  refine lv_iload hx hb d_law_539 (lv_at hl 0 rfl) ?_
  refine lv_icmp_eq (tgt := 546) hx hb d_law_541 (by decide) (fun c111 => ?_) (fun c111 => ?_)
  · rw [if_pos c111] at h
    refine lv_goto (tgt := 1556) hx hb d_law_546 (by decide) ?_
    cases h
    exact hk hP hS (lv_sub hl [1, 2, 3, 4, 5, 6] rfl)
  · rw [if_neg c111] at h
    refine lv_iconst (v := 0) hx hb d_law_544 ic_0 ?_
    cases h
def l_case7 (a1 : Int32) (M : fm_M) : Option fm_M :=
  bd (f_Law_weave 0 a1 210 M) fun x101 M102 =>
  (ck 174 10).bind fun _ =>
  bd (f_Mo_weave 174 a1 M102) fun x107 M105 =>
  (ck 174 10).bind fun _ =>
  bd (f_Mo_thrown 174 M105) fun x111 M109 =>
  if x111 = x101 then
    if x101 = 0 then
      (aj 210 0 M109).bind fun x114 =>
      if (lg_cmp x114 x107.toInt64) = 0 then
        some M109
      else
        none
    else
      some M109
  else
    none
set_option maxHeartbeats 4000000 in
set_option maxRecDepth 100000 in
theorem w_law_7 {p : Program} {l : Launch} {e : Env} {s : State} {m : MethodId} {below : List Frame} {meth : Method} {c : Code} {G : fm_G} {w0 : Cond} {b L : Nat} {xs : Nat → Int32} (C0 : fm_C p s m #[Value.ref b] meth c G w0 "AllocationProfilerLaw" code 9 (some .boolean)) (C1 : fx_S G s) (C2 : lx_S s) (hst : l.stackTraces = false) (hX : va_X b L xs s s.heap) (hbl : b < s.heap.size) (hbA : ¬ fm_A G.2.2 b) {cells slots : Nat} (hcs : cells + 1 ≤ 601024 ∧ slots + 6 ≤ 7293034) (i : Int32) (a1 : Int32) (ha1 : vp_in (i + 1) L ∧ xs (i + 1).toNatClampNeg = a1) {M M' : fm_M} {H : Heap} {locs : List Loc} (hP : kP G M H) (hS : kS G s H locs) {ls : Array Slot} (hl : lv_has ls 9 [(0, .ref b), (1, .ref (G.2.2 + 0)), (2, .ref (G.2.2 + 174)), (3, .ref (G.2.2 + 210)), (4, .ref (G.2.2 + 211)), (5, .int i)]) (h : l_case7 a1 M = some M')
    (hk : ∀ {H : Heap} {locs : List Loc}, kP G M' H → kS G s H locs → ∀ {ls : Array Slot}, lv_has ls 9 [(0, .ref b), (1, .ref (G.2.2 + 0)), (2, .ref (G.2.2 + 174)), (3, .ref (G.2.2 + 210)), (4, .ref (G.2.2 + 211)), (5, .int i)] → W p l e room_1 s m #[Value.ref b] below meth c H locs (cells + 1) (slots + 6) (lw_Z below #[Value.ref b] s) (F0 m 1556 ls [])) : W p l e room_1 s m #[Value.ref b] below meth c H locs cells slots (lw_Z below #[Value.ref b] s) (F0 m 549 ls []) := by
  have hx := C0.1
  have hb := C0.2.1
  unfold l_case7 at h
  refine lv_aload_n hx hb d_law_549 rfl (lv_at hl 1 rfl) ?_
  refine lv_aload_n hx hb d_law_550 rfl (lv_at hl 0 rfl) ?_
  refine lv_iload hx hb d_law_551 (lv_at hl 5 rfl) ?_
  refine lv_iconst (v := 1) hx hb d_law_553 ic_1 ?_
  refine lv_iadd hx hb d_law_554 ?_
  refine l_sld hx hb hX hbl hbA hS ha1 d_law_555 ?_
  refine lv_aload_n hx hb d_law_556 rfl (lv_at hl 3 rfl) ?_
  obtain ⟨x101, M102, e103, h⟩ := ob2 h
  refine l_cS C0 C1 C2 L_Law_129 (As := [.ref (G.2.2 + 0), .int a1, .ref (G.2.2 + 210)]) (c_Law_weave l hst G 0 a1 210 e103) ⟨Nat.le_of_ble_eq_true rfl, Nat.le_of_ble_eq_true rfl⟩ hP hS rfl hl.1 rfl (Nat.le_of_ble_eq_true rfl) d_law_557 ⟨hcs.1, hcs.2⟩ (fun H locs hP hS => ?_)
  refine lv_istore (lv' := [(6, .int x101), (0, .ref b), (1, .ref (G.2.2 + 0)), (2, .ref (G.2.2 + 174)), (3, .ref (G.2.2 + 210)), (4, .ref (G.2.2 + 211)), (5, .int i)]) hx hb d_law_560 hl (by decide) rfl (fun ls hl => ?_)
  refine lv_aload_n hx hb d_law_562 rfl (lv_at hl 3 rfl) ?_
  refine lv_aload_n hx hb d_law_563 rfl (lv_at hl 1 rfl) ?_
  refine lv_iload hx hb d_law_564 (lv_at hl 6 rfl) ?_
  refine lv_iconst (v := 1) hx hb d_law_566 ic_1 ?_
  refine lv_iadd hx hb d_law_567 ?_
  refine l_sld hx hb hX hbl hbA hS ha1 d_law_568 ?_
  obtain ⟨_, e104, h⟩ := ob h
  obtain ⟨x107, M105, e106, h⟩ := ob2 h
  refine k_cV C0 L_Law_131 (As := [.int a1]) (c_Mo_weave l G 174 a1 e106) ⟨rfl, rfl⟩ ⟨Nat.le_of_ble_eq_true rfl, Nat.le_of_ble_eq_true rfl⟩ hP hS (ck_of e104) ly_Mo rfl hl.1 rfl (Nat.le_of_ble_eq_true rfl) d_law_569 ⟨hcs.1, hcs.2⟩ (fun H locs hP hS => ?_)
  refine lv_istore (lv' := [(7, .int x107), (6, .int x101), (0, .ref b), (1, .ref (G.2.2 + 0)), (2, .ref (G.2.2 + 174)), (3, .ref (G.2.2 + 210)), (4, .ref (G.2.2 + 211)), (5, .int i)]) hx hb d_law_572 hl (by decide) rfl (fun ls hl => ?_)
  refine lv_aload_n hx hb d_law_574 rfl (lv_at hl 4 rfl) ?_
  obtain ⟨_, e108, h⟩ := ob h
  obtain ⟨x111, M109, e110, h⟩ := ob2 h
  refine k_cV C0 L_Law_102 (As := []) (c_Mo_thrown l G 174 e110) ⟨rfl, rfl⟩ ⟨Nat.le_of_ble_eq_true rfl, Nat.le_of_ble_eq_true rfl⟩ hP hS (ck_of e108) ly_Mo rfl hl.1 rfl (Nat.le_of_ble_eq_true rfl) d_law_575 ⟨hcs.1, hcs.2⟩ (fun H locs hP hS => ?_)
  refine lv_iload hx hb d_law_578 (lv_at hl 1 rfl) ?_
  refine lv_icmp_eq (tgt := 585) hx hb d_law_580 (by decide) (fun c112 => ?_) (fun c112 => ?_)
  · rw [if_pos c112] at h
    refine lv_iload hx hb d_law_585 (lv_at hl 1 rfl) ?_
    refine lv_if_ne (tgt := 602) hx hb d_law_587 (by decide) (fun c113 => ?_) (fun c113 => ?_)
    · rw [if_neg c113] at h
      refine lv_goto (tgt := 1556) hx hb d_law_602 (by decide) ?_
      cases h
      exact hk hP hS (lv_sub hl [2, 3, 4, 5, 6, 7] rfl)
    · rw [if_pos c113] at h
      refine lv_aload_n hx hb d_law_590 rfl (lv_at hl 5 rfl) ?_
      refine lv_iconst (v := 0) hx hb d_law_591 ic_0 ?_
      obtain ⟨x114, e115, h⟩ := ob h
      refine k_aj C0 hP e115 d_law_592 ?_
      refine lv_iload hx hb d_law_593 (lv_at hl 0 rfl) ?_
      refine lv_i2l hx hb d_law_595 rfl ?_
      refine W.lcmp hx hb d_law_596 ?_
      refine lv_if_eq (tgt := 602) hx hb d_law_597 (by decide) (fun c116 => ?_) (fun c116 => ?_)
      · rw [if_pos c116] at h
        refine lv_goto (tgt := 1556) hx hb d_law_602 (by decide) ?_
        cases h
        exact hk hP hS (lv_sub hl [2, 3, 4, 5, 6, 7] rfl)
      · rw [if_neg c116] at h
        refine lv_iconst (v := 0) hx hb d_law_600 ic_0 ?_
        cases h
  · rw [if_neg c112] at h
    refine lv_iconst (v := 0) hx hb d_law_583 ic_0 ?_
    cases h
def l_case8 (a1 : Int32) (a2 : Int32) (M : fm_M) : Option fm_M :=
  if a2 = 0 then
    bd (f_Law_length 0 a1 0 210 M) fun x102 M103 =>
    if a2 = 0 then
      (ck 174 10).bind fun _ =>
      bd (f_Mo_length 174 a1 0 M103) fun x109 M107 =>
      (ck 174 10).bind fun _ =>
      bd (f_Mo_thrown 174 M107) fun x113 M111 =>
      if x113 = x102 then
        if x102 = 0 then
          (aj 210 0 M111).bind fun x116 =>
          if (lg_cmp x116 x109.toInt64) = 0 then
            some M111
          else
            none
        else
          some M111
      else
        none
    else
      (ck 174 10).bind fun _ =>
      bd (f_Mo_length 174 a1 1 M103) fun x122 M120 =>
      (ck 174 10).bind fun _ =>
      bd (f_Mo_thrown 174 M120) fun x126 M124 =>
      if x126 = x102 then
        if x102 = 0 then
          (aj 210 0 M124).bind fun x129 =>
          if (lg_cmp x129 x122.toInt64) = 0 then
            some M124
          else
            none
        else
          some M124
      else
        none
  else
    bd (f_Law_length 0 a1 1 210 M) fun x132 M133 =>
    if a2 = 0 then
      (ck 174 10).bind fun _ =>
      bd (f_Mo_length 174 a1 0 M133) fun x139 M137 =>
      (ck 174 10).bind fun _ =>
      bd (f_Mo_thrown 174 M137) fun x143 M141 =>
      if x143 = x132 then
        if x132 = 0 then
          (aj 210 0 M141).bind fun x146 =>
          if (lg_cmp x146 x139.toInt64) = 0 then
            some M141
          else
            none
        else
          some M141
      else
        none
    else
      (ck 174 10).bind fun _ =>
      bd (f_Mo_length 174 a1 1 M133) fun x152 M150 =>
      (ck 174 10).bind fun _ =>
      bd (f_Mo_thrown 174 M150) fun x156 M154 =>
      if x156 = x132 then
        if x132 = 0 then
          (aj 210 0 M154).bind fun x159 =>
          if (lg_cmp x159 x152.toInt64) = 0 then
            some M154
          else
            none
        else
          some M154
      else
        none
set_option maxHeartbeats 4000000 in
set_option maxRecDepth 100000 in
theorem w_law_8 {p : Program} {l : Launch} {e : Env} {s : State} {m : MethodId} {below : List Frame} {meth : Method} {c : Code} {G : fm_G} {w0 : Cond} {b L : Nat} {xs : Nat → Int32} (C0 : fm_C p s m #[Value.ref b] meth c G w0 "AllocationProfilerLaw" code 9 (some .boolean)) (C1 : fx_S G s) (C2 : lx_S s) (hst : l.stackTraces = false) (hX : va_X b L xs s s.heap) (hbl : b < s.heap.size) (hbA : ¬ fm_A G.2.2 b) {cells slots : Nat} (hcs : cells + 1 ≤ 601024 ∧ slots + 6 ≤ 7293034) (i : Int32) (a1 : Int32) (a2 : Int32) (ha1 : vp_in (i + 1) L ∧ xs (i + 1).toNatClampNeg = a1) (ha2 : vp_in (i + 2) L ∧ xs (i + 2).toNatClampNeg = a2) {M M' : fm_M} {H : Heap} {locs : List Loc} (hP : kP G M H) (hS : kS G s H locs) {ls : Array Slot} (hl : lv_has ls 9 [(0, .ref b), (1, .ref (G.2.2 + 0)), (2, .ref (G.2.2 + 174)), (3, .ref (G.2.2 + 210)), (4, .ref (G.2.2 + 211)), (5, .int i)]) (h : l_case8 a1 a2 M = some M')
    (hk : ∀ {H : Heap} {locs : List Loc}, kP G M' H → kS G s H locs → ∀ {ls : Array Slot}, lv_has ls 9 [(0, .ref b), (1, .ref (G.2.2 + 0)), (2, .ref (G.2.2 + 174)), (3, .ref (G.2.2 + 210)), (4, .ref (G.2.2 + 211)), (5, .int i)] → W p l e room_1 s m #[Value.ref b] below meth c H locs (cells + 1) (slots + 6) (lw_Z below #[Value.ref b] s) (F0 m 1556 ls [])) : W p l e room_1 s m #[Value.ref b] below meth c H locs cells slots (lw_Z below #[Value.ref b] s) (F0 m 605 ls []) := by
  have hx := C0.1
  have hb := C0.2.1
  unfold l_case8 at h
  refine lv_aload_n hx hb d_law_605 rfl (lv_at hl 1 rfl) ?_
  refine lv_aload_n hx hb d_law_606 rfl (lv_at hl 0 rfl) ?_
  refine lv_iload hx hb d_law_607 (lv_at hl 5 rfl) ?_
  refine lv_iconst (v := 1) hx hb d_law_609 ic_1 ?_
  refine lv_iadd hx hb d_law_610 ?_
  refine l_sld hx hb hX hbl hbA hS ha1 d_law_611 ?_
  refine lv_aload_n hx hb d_law_612 rfl (lv_at hl 0 rfl) ?_
  refine lv_iload hx hb d_law_613 (lv_at hl 5 rfl) ?_
  refine lv_iconst (v := 2) hx hb d_law_615 ic_2 ?_
  refine lv_iadd hx hb d_law_616 ?_
  refine l_sld hx hb hX hbl hbA hS ha2 d_law_617 ?_
  refine lv_if_eq (tgt := 625) hx hb d_law_618 (by decide) (fun c101 => ?_) (fun c101 => ?_)
  · rw [if_pos c101] at h
    refine lv_iconst (v := 0) hx hb d_law_625 ic_0 ?_
    refine lv_aload_n hx hb d_law_626 rfl (lv_at hl 3 rfl) ?_
    obtain ⟨x102, M103, e104, h⟩ := ob2 h
    refine l_cS C0 C1 C2 L_Law_132 (As := [.ref (G.2.2 + 0), .int a1, .int 0, .ref (G.2.2 + 210)]) (c_Law_length l hst G 0 a1 0 210 e104) ⟨Nat.le_of_ble_eq_true rfl, Nat.le_of_ble_eq_true rfl⟩ hP hS rfl hl.1 rfl (Nat.le_of_ble_eq_true rfl) d_law_627 ⟨hcs.1, hcs.2⟩ (fun H locs hP hS => ?_)
    refine lv_istore (lv' := [(6, .int x102), (0, .ref b), (1, .ref (G.2.2 + 0)), (2, .ref (G.2.2 + 174)), (3, .ref (G.2.2 + 210)), (4, .ref (G.2.2 + 211)), (5, .int i)]) hx hb d_law_630 hl (by decide) rfl (fun ls hl => ?_)
    refine lv_aload_n hx hb d_law_632 rfl (lv_at hl 3 rfl) ?_
    refine lv_aload_n hx hb d_law_633 rfl (lv_at hl 1 rfl) ?_
    refine lv_iload hx hb d_law_634 (lv_at hl 6 rfl) ?_
    refine lv_iconst (v := 1) hx hb d_law_636 ic_1 ?_
    refine lv_iadd hx hb d_law_637 ?_
    refine l_sld hx hb hX hbl hbA hS ha1 d_law_638 ?_
    refine lv_aload_n hx hb d_law_639 rfl (lv_at hl 1 rfl) ?_
    refine lv_iload hx hb d_law_640 (lv_at hl 6 rfl) ?_
    refine lv_iconst (v := 2) hx hb d_law_642 ic_2 ?_
    refine lv_iadd hx hb d_law_643 ?_
    refine l_sld hx hb hX hbl hbA hS ha2 d_law_644 ?_
    refine lv_if_eq (tgt := 652) hx hb d_law_645 (by decide) (fun c105 => ?_) (fun c105 => ?_)
    · rw [if_pos c105] at h
      refine lv_iconst (v := 0) hx hb d_law_652 ic_0 ?_
      obtain ⟨_, e106, h⟩ := ob h
      obtain ⟨x109, M107, e108, h⟩ := ob2 h
      refine k_cV C0 L_Law_135 (As := [.int a1, .int 0]) (c_Mo_length l G 174 a1 0 e108) ⟨rfl, rfl⟩ ⟨Nat.le_of_ble_eq_true rfl, Nat.le_of_ble_eq_true rfl⟩ hP hS (ck_of e106) ly_Mo rfl hl.1 rfl (Nat.le_of_ble_eq_true rfl) d_law_653 ⟨hcs.1, hcs.2⟩ (fun H locs hP hS => ?_)
      refine lv_istore (lv' := [(7, .int x109), (6, .int x102), (0, .ref b), (1, .ref (G.2.2 + 0)), (2, .ref (G.2.2 + 174)), (3, .ref (G.2.2 + 210)), (4, .ref (G.2.2 + 211)), (5, .int i)]) hx hb d_law_656 hl (by decide) rfl (fun ls hl => ?_)
      refine lv_aload_n hx hb d_law_658 rfl (lv_at hl 4 rfl) ?_
      obtain ⟨_, e110, h⟩ := ob h
      obtain ⟨x113, M111, e112, h⟩ := ob2 h
      refine k_cV C0 L_Law_102 (As := []) (c_Mo_thrown l G 174 e112) ⟨rfl, rfl⟩ ⟨Nat.le_of_ble_eq_true rfl, Nat.le_of_ble_eq_true rfl⟩ hP hS (ck_of e110) ly_Mo rfl hl.1 rfl (Nat.le_of_ble_eq_true rfl) d_law_659 ⟨hcs.1, hcs.2⟩ (fun H locs hP hS => ?_)
      refine lv_iload hx hb d_law_662 (lv_at hl 1 rfl) ?_
      refine lv_icmp_eq (tgt := 669) hx hb d_law_664 (by decide) (fun c114 => ?_) (fun c114 => ?_)
      · rw [if_pos c114] at h
        refine lv_iload hx hb d_law_669 (lv_at hl 1 rfl) ?_
        refine lv_if_ne (tgt := 686) hx hb d_law_671 (by decide) (fun c115 => ?_) (fun c115 => ?_)
        · rw [if_neg c115] at h
          refine lv_goto (tgt := 1556) hx hb d_law_686 (by decide) ?_
          cases h
          exact hk hP hS (lv_sub hl [2, 3, 4, 5, 6, 7] rfl)
        · rw [if_pos c115] at h
          refine lv_aload_n hx hb d_law_674 rfl (lv_at hl 5 rfl) ?_
          refine lv_iconst (v := 0) hx hb d_law_675 ic_0 ?_
          obtain ⟨x116, e117, h⟩ := ob h
          refine k_aj C0 hP e117 d_law_676 ?_
          refine lv_iload hx hb d_law_677 (lv_at hl 0 rfl) ?_
          refine lv_i2l hx hb d_law_679 rfl ?_
          refine W.lcmp hx hb d_law_680 ?_
          refine lv_if_eq (tgt := 686) hx hb d_law_681 (by decide) (fun c118 => ?_) (fun c118 => ?_)
          · rw [if_pos c118] at h
            refine lv_goto (tgt := 1556) hx hb d_law_686 (by decide) ?_
            cases h
            exact hk hP hS (lv_sub hl [2, 3, 4, 5, 6, 7] rfl)
          · rw [if_neg c118] at h
            refine lv_iconst (v := 0) hx hb d_law_684 ic_0 ?_
            cases h
      · rw [if_neg c114] at h
        refine lv_iconst (v := 0) hx hb d_law_667 ic_0 ?_
        cases h
    · rw [if_neg c105] at h
      refine lv_iconst (v := 1) hx hb d_law_648 ic_1 ?_
      refine lv_goto (tgt := 653) hx hb d_law_649 (by decide) ?_
      obtain ⟨_, e119, h⟩ := ob h
      obtain ⟨x122, M120, e121, h⟩ := ob2 h
      refine k_cV C0 L_Law_135 (As := [.int a1, .int 1]) (c_Mo_length l G 174 a1 1 e121) ⟨rfl, rfl⟩ ⟨Nat.le_of_ble_eq_true rfl, Nat.le_of_ble_eq_true rfl⟩ hP hS (ck_of e119) ly_Mo rfl hl.1 rfl (Nat.le_of_ble_eq_true rfl) d_law_653 ⟨hcs.1, hcs.2⟩ (fun H locs hP hS => ?_)
      refine lv_istore (lv' := [(7, .int x122), (6, .int x102), (0, .ref b), (1, .ref (G.2.2 + 0)), (2, .ref (G.2.2 + 174)), (3, .ref (G.2.2 + 210)), (4, .ref (G.2.2 + 211)), (5, .int i)]) hx hb d_law_656 hl (by decide) rfl (fun ls hl => ?_)
      refine lv_aload_n hx hb d_law_658 rfl (lv_at hl 4 rfl) ?_
      obtain ⟨_, e123, h⟩ := ob h
      obtain ⟨x126, M124, e125, h⟩ := ob2 h
      refine k_cV C0 L_Law_102 (As := []) (c_Mo_thrown l G 174 e125) ⟨rfl, rfl⟩ ⟨Nat.le_of_ble_eq_true rfl, Nat.le_of_ble_eq_true rfl⟩ hP hS (ck_of e123) ly_Mo rfl hl.1 rfl (Nat.le_of_ble_eq_true rfl) d_law_659 ⟨hcs.1, hcs.2⟩ (fun H locs hP hS => ?_)
      refine lv_iload hx hb d_law_662 (lv_at hl 1 rfl) ?_
      refine lv_icmp_eq (tgt := 669) hx hb d_law_664 (by decide) (fun c127 => ?_) (fun c127 => ?_)
      · rw [if_pos c127] at h
        refine lv_iload hx hb d_law_669 (lv_at hl 1 rfl) ?_
        refine lv_if_ne (tgt := 686) hx hb d_law_671 (by decide) (fun c128 => ?_) (fun c128 => ?_)
        · rw [if_neg c128] at h
          refine lv_goto (tgt := 1556) hx hb d_law_686 (by decide) ?_
          cases h
          exact hk hP hS (lv_sub hl [2, 3, 4, 5, 6, 7] rfl)
        · rw [if_pos c128] at h
          refine lv_aload_n hx hb d_law_674 rfl (lv_at hl 5 rfl) ?_
          refine lv_iconst (v := 0) hx hb d_law_675 ic_0 ?_
          obtain ⟨x129, e130, h⟩ := ob h
          refine k_aj C0 hP e130 d_law_676 ?_
          refine lv_iload hx hb d_law_677 (lv_at hl 0 rfl) ?_
          refine lv_i2l hx hb d_law_679 rfl ?_
          refine W.lcmp hx hb d_law_680 ?_
          refine lv_if_eq (tgt := 686) hx hb d_law_681 (by decide) (fun c131 => ?_) (fun c131 => ?_)
          · rw [if_pos c131] at h
            refine lv_goto (tgt := 1556) hx hb d_law_686 (by decide) ?_
            cases h
            exact hk hP hS (lv_sub hl [2, 3, 4, 5, 6, 7] rfl)
          · rw [if_neg c131] at h
            refine lv_iconst (v := 0) hx hb d_law_684 ic_0 ?_
            cases h
      · rw [if_neg c127] at h
        refine lv_iconst (v := 0) hx hb d_law_667 ic_0 ?_
        cases h
  · rw [if_neg c101] at h
    refine lv_iconst (v := 1) hx hb d_law_621 ic_1 ?_
    refine lv_goto (tgt := 626) hx hb d_law_622 (by decide) ?_
    refine lv_aload_n hx hb d_law_626 rfl (lv_at hl 3 rfl) ?_
    obtain ⟨x132, M133, e134, h⟩ := ob2 h
    refine l_cS C0 C1 C2 L_Law_132 (As := [.ref (G.2.2 + 0), .int a1, .int 1, .ref (G.2.2 + 210)]) (c_Law_length l hst G 0 a1 1 210 e134) ⟨Nat.le_of_ble_eq_true rfl, Nat.le_of_ble_eq_true rfl⟩ hP hS rfl hl.1 rfl (Nat.le_of_ble_eq_true rfl) d_law_627 ⟨hcs.1, hcs.2⟩ (fun H locs hP hS => ?_)
    refine lv_istore (lv' := [(6, .int x132), (0, .ref b), (1, .ref (G.2.2 + 0)), (2, .ref (G.2.2 + 174)), (3, .ref (G.2.2 + 210)), (4, .ref (G.2.2 + 211)), (5, .int i)]) hx hb d_law_630 hl (by decide) rfl (fun ls hl => ?_)
    refine lv_aload_n hx hb d_law_632 rfl (lv_at hl 3 rfl) ?_
    refine lv_aload_n hx hb d_law_633 rfl (lv_at hl 1 rfl) ?_
    refine lv_iload hx hb d_law_634 (lv_at hl 6 rfl) ?_
    refine lv_iconst (v := 1) hx hb d_law_636 ic_1 ?_
    refine lv_iadd hx hb d_law_637 ?_
    refine l_sld hx hb hX hbl hbA hS ha1 d_law_638 ?_
    refine lv_aload_n hx hb d_law_639 rfl (lv_at hl 1 rfl) ?_
    refine lv_iload hx hb d_law_640 (lv_at hl 6 rfl) ?_
    refine lv_iconst (v := 2) hx hb d_law_642 ic_2 ?_
    refine lv_iadd hx hb d_law_643 ?_
    refine l_sld hx hb hX hbl hbA hS ha2 d_law_644 ?_
    refine lv_if_eq (tgt := 652) hx hb d_law_645 (by decide) (fun c135 => ?_) (fun c135 => ?_)
    · rw [if_pos c135] at h
      refine lv_iconst (v := 0) hx hb d_law_652 ic_0 ?_
      obtain ⟨_, e136, h⟩ := ob h
      obtain ⟨x139, M137, e138, h⟩ := ob2 h
      refine k_cV C0 L_Law_135 (As := [.int a1, .int 0]) (c_Mo_length l G 174 a1 0 e138) ⟨rfl, rfl⟩ ⟨Nat.le_of_ble_eq_true rfl, Nat.le_of_ble_eq_true rfl⟩ hP hS (ck_of e136) ly_Mo rfl hl.1 rfl (Nat.le_of_ble_eq_true rfl) d_law_653 ⟨hcs.1, hcs.2⟩ (fun H locs hP hS => ?_)
      refine lv_istore (lv' := [(7, .int x139), (6, .int x132), (0, .ref b), (1, .ref (G.2.2 + 0)), (2, .ref (G.2.2 + 174)), (3, .ref (G.2.2 + 210)), (4, .ref (G.2.2 + 211)), (5, .int i)]) hx hb d_law_656 hl (by decide) rfl (fun ls hl => ?_)
      refine lv_aload_n hx hb d_law_658 rfl (lv_at hl 4 rfl) ?_
      obtain ⟨_, e140, h⟩ := ob h
      obtain ⟨x143, M141, e142, h⟩ := ob2 h
      refine k_cV C0 L_Law_102 (As := []) (c_Mo_thrown l G 174 e142) ⟨rfl, rfl⟩ ⟨Nat.le_of_ble_eq_true rfl, Nat.le_of_ble_eq_true rfl⟩ hP hS (ck_of e140) ly_Mo rfl hl.1 rfl (Nat.le_of_ble_eq_true rfl) d_law_659 ⟨hcs.1, hcs.2⟩ (fun H locs hP hS => ?_)
      refine lv_iload hx hb d_law_662 (lv_at hl 1 rfl) ?_
      refine lv_icmp_eq (tgt := 669) hx hb d_law_664 (by decide) (fun c144 => ?_) (fun c144 => ?_)
      · rw [if_pos c144] at h
        refine lv_iload hx hb d_law_669 (lv_at hl 1 rfl) ?_
        refine lv_if_ne (tgt := 686) hx hb d_law_671 (by decide) (fun c145 => ?_) (fun c145 => ?_)
        · rw [if_neg c145] at h
          refine lv_goto (tgt := 1556) hx hb d_law_686 (by decide) ?_
          cases h
          exact hk hP hS (lv_sub hl [2, 3, 4, 5, 6, 7] rfl)
        · rw [if_pos c145] at h
          refine lv_aload_n hx hb d_law_674 rfl (lv_at hl 5 rfl) ?_
          refine lv_iconst (v := 0) hx hb d_law_675 ic_0 ?_
          obtain ⟨x146, e147, h⟩ := ob h
          refine k_aj C0 hP e147 d_law_676 ?_
          refine lv_iload hx hb d_law_677 (lv_at hl 0 rfl) ?_
          refine lv_i2l hx hb d_law_679 rfl ?_
          refine W.lcmp hx hb d_law_680 ?_
          refine lv_if_eq (tgt := 686) hx hb d_law_681 (by decide) (fun c148 => ?_) (fun c148 => ?_)
          · rw [if_pos c148] at h
            refine lv_goto (tgt := 1556) hx hb d_law_686 (by decide) ?_
            cases h
            exact hk hP hS (lv_sub hl [2, 3, 4, 5, 6, 7] rfl)
          · rw [if_neg c148] at h
            refine lv_iconst (v := 0) hx hb d_law_684 ic_0 ?_
            cases h
      · rw [if_neg c144] at h
        refine lv_iconst (v := 0) hx hb d_law_667 ic_0 ?_
        cases h
    · rw [if_neg c135] at h
      refine lv_iconst (v := 1) hx hb d_law_648 ic_1 ?_
      refine lv_goto (tgt := 653) hx hb d_law_649 (by decide) ?_
      obtain ⟨_, e149, h⟩ := ob h
      obtain ⟨x152, M150, e151, h⟩ := ob2 h
      refine k_cV C0 L_Law_135 (As := [.int a1, .int 1]) (c_Mo_length l G 174 a1 1 e151) ⟨rfl, rfl⟩ ⟨Nat.le_of_ble_eq_true rfl, Nat.le_of_ble_eq_true rfl⟩ hP hS (ck_of e149) ly_Mo rfl hl.1 rfl (Nat.le_of_ble_eq_true rfl) d_law_653 ⟨hcs.1, hcs.2⟩ (fun H locs hP hS => ?_)
      refine lv_istore (lv' := [(7, .int x152), (6, .int x132), (0, .ref b), (1, .ref (G.2.2 + 0)), (2, .ref (G.2.2 + 174)), (3, .ref (G.2.2 + 210)), (4, .ref (G.2.2 + 211)), (5, .int i)]) hx hb d_law_656 hl (by decide) rfl (fun ls hl => ?_)
      refine lv_aload_n hx hb d_law_658 rfl (lv_at hl 4 rfl) ?_
      obtain ⟨_, e153, h⟩ := ob h
      obtain ⟨x156, M154, e155, h⟩ := ob2 h
      refine k_cV C0 L_Law_102 (As := []) (c_Mo_thrown l G 174 e155) ⟨rfl, rfl⟩ ⟨Nat.le_of_ble_eq_true rfl, Nat.le_of_ble_eq_true rfl⟩ hP hS (ck_of e153) ly_Mo rfl hl.1 rfl (Nat.le_of_ble_eq_true rfl) d_law_659 ⟨hcs.1, hcs.2⟩ (fun H locs hP hS => ?_)
      refine lv_iload hx hb d_law_662 (lv_at hl 1 rfl) ?_
      refine lv_icmp_eq (tgt := 669) hx hb d_law_664 (by decide) (fun c157 => ?_) (fun c157 => ?_)
      · rw [if_pos c157] at h
        refine lv_iload hx hb d_law_669 (lv_at hl 1 rfl) ?_
        refine lv_if_ne (tgt := 686) hx hb d_law_671 (by decide) (fun c158 => ?_) (fun c158 => ?_)
        · rw [if_neg c158] at h
          refine lv_goto (tgt := 1556) hx hb d_law_686 (by decide) ?_
          cases h
          exact hk hP hS (lv_sub hl [2, 3, 4, 5, 6, 7] rfl)
        · rw [if_pos c158] at h
          refine lv_aload_n hx hb d_law_674 rfl (lv_at hl 5 rfl) ?_
          refine lv_iconst (v := 0) hx hb d_law_675 ic_0 ?_
          obtain ⟨x159, e160, h⟩ := ob h
          refine k_aj C0 hP e160 d_law_676 ?_
          refine lv_iload hx hb d_law_677 (lv_at hl 0 rfl) ?_
          refine lv_i2l hx hb d_law_679 rfl ?_
          refine W.lcmp hx hb d_law_680 ?_
          refine lv_if_eq (tgt := 686) hx hb d_law_681 (by decide) (fun c161 => ?_) (fun c161 => ?_)
          · rw [if_pos c161] at h
            refine lv_goto (tgt := 1556) hx hb d_law_686 (by decide) ?_
            cases h
            exact hk hP hS (lv_sub hl [2, 3, 4, 5, 6, 7] rfl)
          · rw [if_neg c161] at h
            refine lv_iconst (v := 0) hx hb d_law_684 ic_0 ?_
            cases h
      · rw [if_neg c157] at h
        refine lv_iconst (v := 0) hx hb d_law_667 ic_0 ?_
        cases h
def l_case9 (a1 : Int32) (a2 : Int32) (a3 : Int32) (M : fm_M) : Option fm_M :=
  bd (f_Law_code 0 a1 a2 a3 210 M) fun x101 M102 =>
  (ck 174 10).bind fun _ =>
  bd (f_Mo_code 174 a1 a2 a3 M102) fun x107 M105 =>
  (ck 174 10).bind fun _ =>
  bd (f_Mo_thrown 174 M105) fun x111 M109 =>
  if x111 = x101 then
    if x101 = 0 then
      (aj 210 0 M109).bind fun x114 =>
      if (lg_cmp x114 x107.toInt64) = 0 then
        some M109
      else
        none
    else
      some M109
  else
    none
set_option maxHeartbeats 4000000 in
set_option maxRecDepth 100000 in
theorem w_law_9 {p : Program} {l : Launch} {e : Env} {s : State} {m : MethodId} {below : List Frame} {meth : Method} {c : Code} {G : fm_G} {w0 : Cond} {b L : Nat} {xs : Nat → Int32} (C0 : fm_C p s m #[Value.ref b] meth c G w0 "AllocationProfilerLaw" code 9 (some .boolean)) (C1 : fx_S G s) (C2 : lx_S s) (hst : l.stackTraces = false) (hX : va_X b L xs s s.heap) (hbl : b < s.heap.size) (hbA : ¬ fm_A G.2.2 b) {cells slots : Nat} (hcs : cells + 1 ≤ 601024 ∧ slots + 6 ≤ 7293034) (i : Int32) (a1 : Int32) (a2 : Int32) (a3 : Int32) (ha1 : vp_in (i + 1) L ∧ xs (i + 1).toNatClampNeg = a1) (ha2 : vp_in (i + 2) L ∧ xs (i + 2).toNatClampNeg = a2) (ha3 : vp_in (i + 3) L ∧ xs (i + 3).toNatClampNeg = a3) {M M' : fm_M} {H : Heap} {locs : List Loc} (hP : kP G M H) (hS : kS G s H locs) {ls : Array Slot} (hl : lv_has ls 9 [(0, .ref b), (1, .ref (G.2.2 + 0)), (2, .ref (G.2.2 + 174)), (3, .ref (G.2.2 + 210)), (4, .ref (G.2.2 + 211)), (5, .int i)]) (h : l_case9 a1 a2 a3 M = some M')
    (hk : ∀ {H : Heap} {locs : List Loc}, kP G M' H → kS G s H locs → ∀ {ls : Array Slot}, lv_has ls 9 [(0, .ref b), (1, .ref (G.2.2 + 0)), (2, .ref (G.2.2 + 174)), (3, .ref (G.2.2 + 210)), (4, .ref (G.2.2 + 211)), (5, .int i)] → W p l e room_1 s m #[Value.ref b] below meth c H locs (cells + 1) (slots + 6) (lw_Z below #[Value.ref b] s) (F0 m 1556 ls [])) : W p l e room_1 s m #[Value.ref b] below meth c H locs cells slots (lw_Z below #[Value.ref b] s) (F0 m 689 ls []) := by
  have hx := C0.1
  have hb := C0.2.1
  unfold l_case9 at h
  refine lv_aload_n hx hb d_law_689 rfl (lv_at hl 1 rfl) ?_
  refine lv_aload_n hx hb d_law_690 rfl (lv_at hl 0 rfl) ?_
  refine lv_iload hx hb d_law_691 (lv_at hl 5 rfl) ?_
  refine lv_iconst (v := 1) hx hb d_law_693 ic_1 ?_
  refine lv_iadd hx hb d_law_694 ?_
  refine l_sld hx hb hX hbl hbA hS ha1 d_law_695 ?_
  refine lv_aload_n hx hb d_law_696 rfl (lv_at hl 0 rfl) ?_
  refine lv_iload hx hb d_law_697 (lv_at hl 5 rfl) ?_
  refine lv_iconst (v := 2) hx hb d_law_699 ic_2 ?_
  refine lv_iadd hx hb d_law_700 ?_
  refine l_sld hx hb hX hbl hbA hS ha2 d_law_701 ?_
  refine lv_aload_n hx hb d_law_702 rfl (lv_at hl 0 rfl) ?_
  refine lv_iload hx hb d_law_703 (lv_at hl 5 rfl) ?_
  refine lv_iconst (v := 3) hx hb d_law_705 ic_3 ?_
  refine lv_iadd hx hb d_law_706 ?_
  refine l_sld hx hb hX hbl hbA hS ha3 d_law_707 ?_
  refine lv_aload_n hx hb d_law_708 rfl (lv_at hl 3 rfl) ?_
  obtain ⟨x101, M102, e103, h⟩ := ob2 h
  refine l_cS C0 C1 C2 L_Law_136 (As := [.ref (G.2.2 + 0), .int a1, .int a2, .int a3, .ref (G.2.2 + 210)]) (c_Law_code l hst G 0 a1 a2 a3 210 e103) ⟨Nat.le_of_ble_eq_true rfl, Nat.le_of_ble_eq_true rfl⟩ hP hS rfl hl.1 rfl (Nat.le_of_ble_eq_true rfl) d_law_709 ⟨hcs.1, hcs.2⟩ (fun H locs hP hS => ?_)
  refine lv_istore (lv' := [(6, .int x101), (0, .ref b), (1, .ref (G.2.2 + 0)), (2, .ref (G.2.2 + 174)), (3, .ref (G.2.2 + 210)), (4, .ref (G.2.2 + 211)), (5, .int i)]) hx hb d_law_712 hl (by decide) rfl (fun ls hl => ?_)
  refine lv_aload_n hx hb d_law_714 rfl (lv_at hl 3 rfl) ?_
  refine lv_aload_n hx hb d_law_715 rfl (lv_at hl 1 rfl) ?_
  refine lv_iload hx hb d_law_716 (lv_at hl 6 rfl) ?_
  refine lv_iconst (v := 1) hx hb d_law_718 ic_1 ?_
  refine lv_iadd hx hb d_law_719 ?_
  refine l_sld hx hb hX hbl hbA hS ha1 d_law_720 ?_
  refine lv_aload_n hx hb d_law_721 rfl (lv_at hl 1 rfl) ?_
  refine lv_iload hx hb d_law_722 (lv_at hl 6 rfl) ?_
  refine lv_iconst (v := 2) hx hb d_law_724 ic_2 ?_
  refine lv_iadd hx hb d_law_725 ?_
  refine l_sld hx hb hX hbl hbA hS ha2 d_law_726 ?_
  refine lv_aload_n hx hb d_law_727 rfl (lv_at hl 1 rfl) ?_
  refine lv_iload hx hb d_law_728 (lv_at hl 6 rfl) ?_
  refine lv_iconst (v := 3) hx hb d_law_730 ic_3 ?_
  refine lv_iadd hx hb d_law_731 ?_
  refine l_sld hx hb hX hbl hbA hS ha3 d_law_732 ?_
  obtain ⟨_, e104, h⟩ := ob h
  obtain ⟨x107, M105, e106, h⟩ := ob2 h
  refine k_cV C0 L_Law_138 (As := [.int a1, .int a2, .int a3]) (c_Mo_code l G 174 a1 a2 a3 e106) ⟨rfl, rfl⟩ ⟨Nat.le_of_ble_eq_true rfl, Nat.le_of_ble_eq_true rfl⟩ hP hS (ck_of e104) ly_Mo rfl hl.1 rfl (Nat.le_of_ble_eq_true rfl) d_law_733 ⟨hcs.1, hcs.2⟩ (fun H locs hP hS => ?_)
  refine lv_istore (lv' := [(7, .int x107), (6, .int x101), (0, .ref b), (1, .ref (G.2.2 + 0)), (2, .ref (G.2.2 + 174)), (3, .ref (G.2.2 + 210)), (4, .ref (G.2.2 + 211)), (5, .int i)]) hx hb d_law_736 hl (by decide) rfl (fun ls hl => ?_)
  refine lv_aload_n hx hb d_law_738 rfl (lv_at hl 4 rfl) ?_
  obtain ⟨_, e108, h⟩ := ob h
  obtain ⟨x111, M109, e110, h⟩ := ob2 h
  refine k_cV C0 L_Law_102 (As := []) (c_Mo_thrown l G 174 e110) ⟨rfl, rfl⟩ ⟨Nat.le_of_ble_eq_true rfl, Nat.le_of_ble_eq_true rfl⟩ hP hS (ck_of e108) ly_Mo rfl hl.1 rfl (Nat.le_of_ble_eq_true rfl) d_law_739 ⟨hcs.1, hcs.2⟩ (fun H locs hP hS => ?_)
  refine lv_iload hx hb d_law_742 (lv_at hl 1 rfl) ?_
  refine lv_icmp_eq (tgt := 749) hx hb d_law_744 (by decide) (fun c112 => ?_) (fun c112 => ?_)
  · rw [if_pos c112] at h
    refine lv_iload hx hb d_law_749 (lv_at hl 1 rfl) ?_
    refine lv_if_ne (tgt := 766) hx hb d_law_751 (by decide) (fun c113 => ?_) (fun c113 => ?_)
    · rw [if_neg c113] at h
      refine lv_goto (tgt := 1556) hx hb d_law_766 (by decide) ?_
      cases h
      exact hk hP hS (lv_sub hl [2, 3, 4, 5, 6, 7] rfl)
    · rw [if_pos c113] at h
      refine lv_aload_n hx hb d_law_754 rfl (lv_at hl 5 rfl) ?_
      refine lv_iconst (v := 0) hx hb d_law_755 ic_0 ?_
      obtain ⟨x114, e115, h⟩ := ob h
      refine k_aj C0 hP e115 d_law_756 ?_
      refine lv_iload hx hb d_law_757 (lv_at hl 0 rfl) ?_
      refine lv_i2l hx hb d_law_759 rfl ?_
      refine W.lcmp hx hb d_law_760 ?_
      refine lv_if_eq (tgt := 766) hx hb d_law_761 (by decide) (fun c116 => ?_) (fun c116 => ?_)
      · rw [if_pos c116] at h
        refine lv_goto (tgt := 1556) hx hb d_law_766 (by decide) ?_
        cases h
        exact hk hP hS (lv_sub hl [2, 3, 4, 5, 6, 7] rfl)
      · rw [if_neg c116] at h
        refine lv_iconst (v := 0) hx hb d_law_764 ic_0 ?_
        cases h
  · rw [if_neg c112] at h
    refine lv_iconst (v := 0) hx hb d_law_747 ic_0 ?_
    cases h
def l_case10 (a1 : Int32) (a2 : Int32) (M : fm_M) : Option fm_M :=
  bd (f_Law_site 0 a1 a2 210 M) fun x101 M102 =>
  (ck 174 10).bind fun _ =>
  bd (f_Mo_site 174 a1 a2 M102) fun x107 M105 =>
  (ck 174 10).bind fun _ =>
  bd (f_Mo_thrown 174 M105) fun x111 M109 =>
  if x111 = x101 then
    if x101 = 0 then
      (aj 210 0 M109).bind fun x114 =>
      if (lg_cmp x114 x107.toInt64) = 0 then
        some M109
      else
        none
    else
      some M109
  else
    none
set_option maxHeartbeats 4000000 in
set_option maxRecDepth 100000 in
theorem w_law_10 {p : Program} {l : Launch} {e : Env} {s : State} {m : MethodId} {below : List Frame} {meth : Method} {c : Code} {G : fm_G} {w0 : Cond} {b L : Nat} {xs : Nat → Int32} (C0 : fm_C p s m #[Value.ref b] meth c G w0 "AllocationProfilerLaw" code 9 (some .boolean)) (C1 : fx_S G s) (C2 : lx_S s) (hst : l.stackTraces = false) (hX : va_X b L xs s s.heap) (hbl : b < s.heap.size) (hbA : ¬ fm_A G.2.2 b) {cells slots : Nat} (hcs : cells + 1 ≤ 601024 ∧ slots + 6 ≤ 7293034) (i : Int32) (a1 : Int32) (a2 : Int32) (ha1 : vp_in (i + 1) L ∧ xs (i + 1).toNatClampNeg = a1) (ha2 : vp_in (i + 2) L ∧ xs (i + 2).toNatClampNeg = a2) {M M' : fm_M} {H : Heap} {locs : List Loc} (hP : kP G M H) (hS : kS G s H locs) {ls : Array Slot} (hl : lv_has ls 9 [(0, .ref b), (1, .ref (G.2.2 + 0)), (2, .ref (G.2.2 + 174)), (3, .ref (G.2.2 + 210)), (4, .ref (G.2.2 + 211)), (5, .int i)]) (h : l_case10 a1 a2 M = some M')
    (hk : ∀ {H : Heap} {locs : List Loc}, kP G M' H → kS G s H locs → ∀ {ls : Array Slot}, lv_has ls 9 [(0, .ref b), (1, .ref (G.2.2 + 0)), (2, .ref (G.2.2 + 174)), (3, .ref (G.2.2 + 210)), (4, .ref (G.2.2 + 211)), (5, .int i)] → W p l e room_1 s m #[Value.ref b] below meth c H locs (cells + 1) (slots + 6) (lw_Z below #[Value.ref b] s) (F0 m 1556 ls [])) : W p l e room_1 s m #[Value.ref b] below meth c H locs cells slots (lw_Z below #[Value.ref b] s) (F0 m 769 ls []) := by
  have hx := C0.1
  have hb := C0.2.1
  unfold l_case10 at h
  refine lv_aload_n hx hb d_law_769 rfl (lv_at hl 1 rfl) ?_
  refine lv_aload_n hx hb d_law_770 rfl (lv_at hl 0 rfl) ?_
  refine lv_iload hx hb d_law_771 (lv_at hl 5 rfl) ?_
  refine lv_iconst (v := 1) hx hb d_law_773 ic_1 ?_
  refine lv_iadd hx hb d_law_774 ?_
  refine l_sld hx hb hX hbl hbA hS ha1 d_law_775 ?_
  refine lv_aload_n hx hb d_law_776 rfl (lv_at hl 0 rfl) ?_
  refine lv_iload hx hb d_law_777 (lv_at hl 5 rfl) ?_
  refine lv_iconst (v := 2) hx hb d_law_779 ic_2 ?_
  refine lv_iadd hx hb d_law_780 ?_
  refine l_sld hx hb hX hbl hbA hS ha2 d_law_781 ?_
  refine lv_aload_n hx hb d_law_782 rfl (lv_at hl 3 rfl) ?_
  obtain ⟨x101, M102, e103, h⟩ := ob2 h
  refine l_cS C0 C1 C2 L_Law_139 (As := [.ref (G.2.2 + 0), .int a1, .int a2, .ref (G.2.2 + 210)]) (c_Law_site l hst G 0 a1 a2 210 e103) ⟨Nat.le_of_ble_eq_true rfl, Nat.le_of_ble_eq_true rfl⟩ hP hS rfl hl.1 rfl (Nat.le_of_ble_eq_true rfl) d_law_783 ⟨hcs.1, hcs.2⟩ (fun H locs hP hS => ?_)
  refine lv_istore (lv' := [(6, .int x101), (0, .ref b), (1, .ref (G.2.2 + 0)), (2, .ref (G.2.2 + 174)), (3, .ref (G.2.2 + 210)), (4, .ref (G.2.2 + 211)), (5, .int i)]) hx hb d_law_786 hl (by decide) rfl (fun ls hl => ?_)
  refine lv_aload_n hx hb d_law_788 rfl (lv_at hl 3 rfl) ?_
  refine lv_aload_n hx hb d_law_789 rfl (lv_at hl 1 rfl) ?_
  refine lv_iload hx hb d_law_790 (lv_at hl 6 rfl) ?_
  refine lv_iconst (v := 1) hx hb d_law_792 ic_1 ?_
  refine lv_iadd hx hb d_law_793 ?_
  refine l_sld hx hb hX hbl hbA hS ha1 d_law_794 ?_
  refine lv_aload_n hx hb d_law_795 rfl (lv_at hl 1 rfl) ?_
  refine lv_iload hx hb d_law_796 (lv_at hl 6 rfl) ?_
  refine lv_iconst (v := 2) hx hb d_law_798 ic_2 ?_
  refine lv_iadd hx hb d_law_799 ?_
  refine l_sld hx hb hX hbl hbA hS ha2 d_law_800 ?_
  obtain ⟨_, e104, h⟩ := ob h
  obtain ⟨x107, M105, e106, h⟩ := ob2 h
  refine k_cV C0 L_Law_141 (As := [.int a1, .int a2]) (c_Mo_site l G 174 a1 a2 e106) ⟨rfl, rfl⟩ ⟨Nat.le_of_ble_eq_true rfl, Nat.le_of_ble_eq_true rfl⟩ hP hS (ck_of e104) ly_Mo rfl hl.1 rfl (Nat.le_of_ble_eq_true rfl) d_law_801 ⟨hcs.1, hcs.2⟩ (fun H locs hP hS => ?_)
  refine lv_istore (lv' := [(7, .int x107), (6, .int x101), (0, .ref b), (1, .ref (G.2.2 + 0)), (2, .ref (G.2.2 + 174)), (3, .ref (G.2.2 + 210)), (4, .ref (G.2.2 + 211)), (5, .int i)]) hx hb d_law_804 hl (by decide) rfl (fun ls hl => ?_)
  refine lv_aload_n hx hb d_law_806 rfl (lv_at hl 4 rfl) ?_
  obtain ⟨_, e108, h⟩ := ob h
  obtain ⟨x111, M109, e110, h⟩ := ob2 h
  refine k_cV C0 L_Law_102 (As := []) (c_Mo_thrown l G 174 e110) ⟨rfl, rfl⟩ ⟨Nat.le_of_ble_eq_true rfl, Nat.le_of_ble_eq_true rfl⟩ hP hS (ck_of e108) ly_Mo rfl hl.1 rfl (Nat.le_of_ble_eq_true rfl) d_law_807 ⟨hcs.1, hcs.2⟩ (fun H locs hP hS => ?_)
  refine lv_iload hx hb d_law_810 (lv_at hl 1 rfl) ?_
  refine lv_icmp_eq (tgt := 817) hx hb d_law_812 (by decide) (fun c112 => ?_) (fun c112 => ?_)
  · rw [if_pos c112] at h
    refine lv_iload hx hb d_law_817 (lv_at hl 1 rfl) ?_
    refine lv_if_ne (tgt := 834) hx hb d_law_819 (by decide) (fun c113 => ?_) (fun c113 => ?_)
    · rw [if_neg c113] at h
      refine lv_goto (tgt := 1556) hx hb d_law_834 (by decide) ?_
      cases h
      exact hk hP hS (lv_sub hl [2, 3, 4, 5, 6, 7] rfl)
    · rw [if_pos c113] at h
      refine lv_aload_n hx hb d_law_822 rfl (lv_at hl 5 rfl) ?_
      refine lv_iconst (v := 0) hx hb d_law_823 ic_0 ?_
      obtain ⟨x114, e115, h⟩ := ob h
      refine k_aj C0 hP e115 d_law_824 ?_
      refine lv_iload hx hb d_law_825 (lv_at hl 0 rfl) ?_
      refine lv_i2l hx hb d_law_827 rfl ?_
      refine W.lcmp hx hb d_law_828 ?_
      refine lv_if_eq (tgt := 834) hx hb d_law_829 (by decide) (fun c116 => ?_) (fun c116 => ?_)
      · rw [if_pos c116] at h
        refine lv_goto (tgt := 1556) hx hb d_law_834 (by decide) ?_
        cases h
        exact hk hP hS (lv_sub hl [2, 3, 4, 5, 6, 7] rfl)
      · rw [if_neg c116] at h
        refine lv_iconst (v := 0) hx hb d_law_832 ic_0 ?_
        cases h
  · rw [if_neg c112] at h
    refine lv_iconst (v := 0) hx hb d_law_815 ic_0 ?_
    cases h
def l_case11 (a1 : Int32) (a2 : Int32) (a3 : Int32) (M : fm_M) : Option fm_M :=
  bd (f_Law_start 0 a1 a2 a3 M) fun x101 M102 =>
  (ck 174 10).bind fun _ =>
  (f_Mo_start 174 a1 a2 a3 M102).bind fun M105 =>
  (ck 174 10).bind fun _ =>
  bd (f_Mo_thrown 174 M105) fun x110 M108 =>
  if x110 = x101 then
    some M108
  else
    none
set_option maxHeartbeats 4000000 in
set_option maxRecDepth 100000 in
theorem w_law_11 {p : Program} {l : Launch} {e : Env} {s : State} {m : MethodId} {below : List Frame} {meth : Method} {c : Code} {G : fm_G} {w0 : Cond} {b L : Nat} {xs : Nat → Int32} (C0 : fm_C p s m #[Value.ref b] meth c G w0 "AllocationProfilerLaw" code 9 (some .boolean)) (C1 : fx_S G s) (C2 : lx_S s) (hst : l.stackTraces = false) (hX : va_X b L xs s s.heap) (hbl : b < s.heap.size) (hbA : ¬ fm_A G.2.2 b) {cells slots : Nat} (hcs : cells + 1 ≤ 601024 ∧ slots + 6 ≤ 7293034) (i : Int32) (a1 : Int32) (a2 : Int32) (a3 : Int32) (ha1 : vp_in (i + 1) L ∧ xs (i + 1).toNatClampNeg = a1) (ha2 : vp_in (i + 2) L ∧ xs (i + 2).toNatClampNeg = a2) (ha3 : vp_in (i + 3) L ∧ xs (i + 3).toNatClampNeg = a3) {M M' : fm_M} {H : Heap} {locs : List Loc} (hP : kP G M H) (hS : kS G s H locs) {ls : Array Slot} (hl : lv_has ls 9 [(0, .ref b), (1, .ref (G.2.2 + 0)), (2, .ref (G.2.2 + 174)), (3, .ref (G.2.2 + 210)), (4, .ref (G.2.2 + 211)), (5, .int i)]) (h : l_case11 a1 a2 a3 M = some M')
    (hk : ∀ {H : Heap} {locs : List Loc}, kP G M' H → kS G s H locs → ∀ {ls : Array Slot}, lv_has ls 9 [(0, .ref b), (1, .ref (G.2.2 + 0)), (2, .ref (G.2.2 + 174)), (3, .ref (G.2.2 + 210)), (4, .ref (G.2.2 + 211)), (5, .int i)] → W p l e room_1 s m #[Value.ref b] below meth c H locs (cells + 1) (slots + 6) (lw_Z below #[Value.ref b] s) (F0 m 1556 ls [])) : W p l e room_1 s m #[Value.ref b] below meth c H locs cells slots (lw_Z below #[Value.ref b] s) (F0 m 837 ls []) := by
  have hx := C0.1
  have hb := C0.2.1
  unfold l_case11 at h
  refine lv_aload_n hx hb d_law_837 rfl (lv_at hl 1 rfl) ?_
  refine lv_aload_n hx hb d_law_838 rfl (lv_at hl 0 rfl) ?_
  refine lv_iload hx hb d_law_839 (lv_at hl 5 rfl) ?_
  refine lv_iconst (v := 1) hx hb d_law_841 ic_1 ?_
  refine lv_iadd hx hb d_law_842 ?_
  refine l_sld hx hb hX hbl hbA hS ha1 d_law_843 ?_
  refine lv_aload_n hx hb d_law_844 rfl (lv_at hl 0 rfl) ?_
  refine lv_iload hx hb d_law_845 (lv_at hl 5 rfl) ?_
  refine lv_iconst (v := 2) hx hb d_law_847 ic_2 ?_
  refine lv_iadd hx hb d_law_848 ?_
  refine l_sld hx hb hX hbl hbA hS ha2 d_law_849 ?_
  refine lv_aload_n hx hb d_law_850 rfl (lv_at hl 0 rfl) ?_
  refine lv_iload hx hb d_law_851 (lv_at hl 5 rfl) ?_
  refine lv_iconst (v := 3) hx hb d_law_853 ic_3 ?_
  refine lv_iadd hx hb d_law_854 ?_
  refine l_sld hx hb hX hbl hbA hS ha3 d_law_855 ?_
  obtain ⟨x101, M102, e103, h⟩ := ob2 h
  refine l_cS C0 C1 C2 L_Law_142 (As := [.ref (G.2.2 + 0), .int a1, .int a2, .int a3]) (c_Law_start l hst G 0 a1 a2 a3 e103) ⟨Nat.le_of_ble_eq_true rfl, Nat.le_of_ble_eq_true rfl⟩ hP hS rfl hl.1 rfl (Nat.le_of_ble_eq_true rfl) d_law_856 ⟨hcs.1, hcs.2⟩ (fun H locs hP hS => ?_)
  refine lv_istore (lv' := [(6, .int x101), (0, .ref b), (1, .ref (G.2.2 + 0)), (2, .ref (G.2.2 + 174)), (3, .ref (G.2.2 + 210)), (4, .ref (G.2.2 + 211)), (5, .int i)]) hx hb d_law_859 hl (by decide) rfl (fun ls hl => ?_)
  refine lv_aload_n hx hb d_law_861 rfl (lv_at hl 3 rfl) ?_
  refine lv_aload_n hx hb d_law_862 rfl (lv_at hl 1 rfl) ?_
  refine lv_iload hx hb d_law_863 (lv_at hl 6 rfl) ?_
  refine lv_iconst (v := 1) hx hb d_law_865 ic_1 ?_
  refine lv_iadd hx hb d_law_866 ?_
  refine l_sld hx hb hX hbl hbA hS ha1 d_law_867 ?_
  refine lv_aload_n hx hb d_law_868 rfl (lv_at hl 1 rfl) ?_
  refine lv_iload hx hb d_law_869 (lv_at hl 6 rfl) ?_
  refine lv_iconst (v := 2) hx hb d_law_871 ic_2 ?_
  refine lv_iadd hx hb d_law_872 ?_
  refine l_sld hx hb hX hbl hbA hS ha2 d_law_873 ?_
  refine lv_aload_n hx hb d_law_874 rfl (lv_at hl 1 rfl) ?_
  refine lv_iload hx hb d_law_875 (lv_at hl 6 rfl) ?_
  refine lv_iconst (v := 3) hx hb d_law_877 ic_3 ?_
  refine lv_iadd hx hb d_law_878 ?_
  refine l_sld hx hb hX hbl hbA hS ha3 d_law_879 ?_
  obtain ⟨_, e104, h⟩ := ob h
  obtain ⟨M105, e106, h⟩ := ob h
  refine k_cVv C0 L_Law_145 (As := [.int a1, .int a2, .int a3]) (c_Mo_start l G 174 a1 a2 a3 e106) ⟨rfl, rfl⟩ ⟨Nat.le_of_ble_eq_true rfl, Nat.le_of_ble_eq_true rfl⟩ hP hS (ck_of e104) ly_Mo rfl hl.1 rfl (Nat.le_of_ble_eq_true rfl) d_law_880 ⟨hcs.1, hcs.2⟩ (fun H locs hP hS => ?_)
  refine lv_aload_n hx hb d_law_883 rfl (lv_at hl 3 rfl) ?_
  obtain ⟨_, e107, h⟩ := ob h
  obtain ⟨x110, M108, e109, h⟩ := ob2 h
  refine k_cV C0 L_Law_102 (As := []) (c_Mo_thrown l G 174 e109) ⟨rfl, rfl⟩ ⟨Nat.le_of_ble_eq_true rfl, Nat.le_of_ble_eq_true rfl⟩ hP hS (ck_of e107) ly_Mo rfl hl.1 rfl (Nat.le_of_ble_eq_true rfl) d_law_884 ⟨hcs.1, hcs.2⟩ (fun H locs hP hS => ?_)
  refine lv_iload hx hb d_law_887 (lv_at hl 0 rfl) ?_
  refine lv_icmp_eq (tgt := 894) hx hb d_law_889 (by decide) (fun c111 => ?_) (fun c111 => ?_)
  · rw [if_pos c111] at h
    refine lv_goto (tgt := 1556) hx hb d_law_894 (by decide) ?_
    cases h
    exact hk hP hS (lv_sub hl [1, 2, 3, 4, 5, 6] rfl)
  · rw [if_neg c111] at h
    refine lv_iconst (v := 0) hx hb d_law_892 ic_0 ?_
    cases h
def l_case12 (a1 : Int32) (M : fm_M) : Option fm_M :=
  bd (f_Law_run 0 a1 210 M) fun x101 M102 =>
  (ck 174 10).bind fun _ =>
  bd (f_Mo_run 174 a1 M102) fun x107 M105 =>
  (ck 174 10).bind fun _ =>
  bd (f_Mo_thrown 174 M105) fun x111 M109 =>
  if x111 = x101 then
    if x101 = 0 then
      (aj 210 0 M109).bind fun x114 =>
      if (lg_cmp x114 x107.toInt64) = 0 then
        some M109
      else
        none
    else
      some M109
  else
    none
set_option maxHeartbeats 4000000 in
set_option maxRecDepth 100000 in
theorem w_law_12 {p : Program} {l : Launch} {e : Env} {s : State} {m : MethodId} {below : List Frame} {meth : Method} {c : Code} {G : fm_G} {w0 : Cond} {b L : Nat} {xs : Nat → Int32} (C0 : fm_C p s m #[Value.ref b] meth c G w0 "AllocationProfilerLaw" code 9 (some .boolean)) (C1 : fx_S G s) (C2 : lx_S s) (hst : l.stackTraces = false) (hX : va_X b L xs s s.heap) (hbl : b < s.heap.size) (hbA : ¬ fm_A G.2.2 b) {cells slots : Nat} (hcs : cells + 1 ≤ 601024 ∧ slots + 6 ≤ 7293034) (i : Int32) (a1 : Int32) (ha1 : vp_in (i + 1) L ∧ xs (i + 1).toNatClampNeg = a1) {M M' : fm_M} {H : Heap} {locs : List Loc} (hP : kP G M H) (hS : kS G s H locs) {ls : Array Slot} (hl : lv_has ls 9 [(0, .ref b), (1, .ref (G.2.2 + 0)), (2, .ref (G.2.2 + 174)), (3, .ref (G.2.2 + 210)), (4, .ref (G.2.2 + 211)), (5, .int i)]) (h : l_case12 a1 M = some M')
    (hk : ∀ {H : Heap} {locs : List Loc}, kP G M' H → kS G s H locs → ∀ {ls : Array Slot}, lv_has ls 9 [(0, .ref b), (1, .ref (G.2.2 + 0)), (2, .ref (G.2.2 + 174)), (3, .ref (G.2.2 + 210)), (4, .ref (G.2.2 + 211)), (5, .int i)] → W p l e room_1 s m #[Value.ref b] below meth c H locs (cells + 1) (slots + 6) (lw_Z below #[Value.ref b] s) (F0 m 1556 ls [])) : W p l e room_1 s m #[Value.ref b] below meth c H locs cells slots (lw_Z below #[Value.ref b] s) (F0 m 897 ls []) := by
  have hx := C0.1
  have hb := C0.2.1
  unfold l_case12 at h
  refine lv_aload_n hx hb d_law_897 rfl (lv_at hl 1 rfl) ?_
  refine lv_aload_n hx hb d_law_898 rfl (lv_at hl 0 rfl) ?_
  refine lv_iload hx hb d_law_899 (lv_at hl 5 rfl) ?_
  refine lv_iconst (v := 1) hx hb d_law_901 ic_1 ?_
  refine lv_iadd hx hb d_law_902 ?_
  refine l_sld hx hb hX hbl hbA hS ha1 d_law_903 ?_
  refine lv_aload_n hx hb d_law_904 rfl (lv_at hl 3 rfl) ?_
  obtain ⟨x101, M102, e103, h⟩ := ob2 h
  refine l_cS C0 C1 C2 L_Law_146 (As := [.ref (G.2.2 + 0), .int a1, .ref (G.2.2 + 210)]) (c_Law_run l hst G 0 a1 210 e103) ⟨Nat.le_of_ble_eq_true rfl, Nat.le_of_ble_eq_true rfl⟩ hP hS rfl hl.1 rfl (Nat.le_of_ble_eq_true rfl) d_law_905 ⟨hcs.1, hcs.2⟩ (fun H locs hP hS => ?_)
  refine lv_istore (lv' := [(6, .int x101), (0, .ref b), (1, .ref (G.2.2 + 0)), (2, .ref (G.2.2 + 174)), (3, .ref (G.2.2 + 210)), (4, .ref (G.2.2 + 211)), (5, .int i)]) hx hb d_law_908 hl (by decide) rfl (fun ls hl => ?_)
  refine lv_aload_n hx hb d_law_910 rfl (lv_at hl 3 rfl) ?_
  refine lv_aload_n hx hb d_law_911 rfl (lv_at hl 1 rfl) ?_
  refine lv_iload hx hb d_law_912 (lv_at hl 6 rfl) ?_
  refine lv_iconst (v := 1) hx hb d_law_914 ic_1 ?_
  refine lv_iadd hx hb d_law_915 ?_
  refine l_sld hx hb hX hbl hbA hS ha1 d_law_916 ?_
  obtain ⟨_, e104, h⟩ := ob h
  obtain ⟨x107, M105, e106, h⟩ := ob2 h
  refine k_cV C0 L_Law_148 (As := [.int a1]) (c_Mo_run l G 174 a1 e106) ⟨rfl, rfl⟩ ⟨Nat.le_of_ble_eq_true rfl, Nat.le_of_ble_eq_true rfl⟩ hP hS (ck_of e104) ly_Mo rfl hl.1 rfl (Nat.le_of_ble_eq_true rfl) d_law_917 ⟨hcs.1, hcs.2⟩ (fun H locs hP hS => ?_)
  refine lv_istore (lv' := [(7, .int x107), (6, .int x101), (0, .ref b), (1, .ref (G.2.2 + 0)), (2, .ref (G.2.2 + 174)), (3, .ref (G.2.2 + 210)), (4, .ref (G.2.2 + 211)), (5, .int i)]) hx hb d_law_920 hl (by decide) rfl (fun ls hl => ?_)
  refine lv_aload_n hx hb d_law_922 rfl (lv_at hl 4 rfl) ?_
  obtain ⟨_, e108, h⟩ := ob h
  obtain ⟨x111, M109, e110, h⟩ := ob2 h
  refine k_cV C0 L_Law_102 (As := []) (c_Mo_thrown l G 174 e110) ⟨rfl, rfl⟩ ⟨Nat.le_of_ble_eq_true rfl, Nat.le_of_ble_eq_true rfl⟩ hP hS (ck_of e108) ly_Mo rfl hl.1 rfl (Nat.le_of_ble_eq_true rfl) d_law_923 ⟨hcs.1, hcs.2⟩ (fun H locs hP hS => ?_)
  refine lv_iload hx hb d_law_926 (lv_at hl 1 rfl) ?_
  refine lv_icmp_eq (tgt := 933) hx hb d_law_928 (by decide) (fun c112 => ?_) (fun c112 => ?_)
  · rw [if_pos c112] at h
    refine lv_iload hx hb d_law_933 (lv_at hl 1 rfl) ?_
    refine lv_if_ne (tgt := 950) hx hb d_law_935 (by decide) (fun c113 => ?_) (fun c113 => ?_)
    · rw [if_neg c113] at h
      refine lv_goto (tgt := 1556) hx hb d_law_950 (by decide) ?_
      cases h
      exact hk hP hS (lv_sub hl [2, 3, 4, 5, 6, 7] rfl)
    · rw [if_pos c113] at h
      refine lv_aload_n hx hb d_law_938 rfl (lv_at hl 5 rfl) ?_
      refine lv_iconst (v := 0) hx hb d_law_939 ic_0 ?_
      obtain ⟨x114, e115, h⟩ := ob h
      refine k_aj C0 hP e115 d_law_940 ?_
      refine lv_iload hx hb d_law_941 (lv_at hl 0 rfl) ?_
      refine lv_i2l hx hb d_law_943 rfl ?_
      refine W.lcmp hx hb d_law_944 ?_
      refine lv_if_eq (tgt := 950) hx hb d_law_945 (by decide) (fun c116 => ?_) (fun c116 => ?_)
      · rw [if_pos c116] at h
        refine lv_goto (tgt := 1556) hx hb d_law_950 (by decide) ?_
        cases h
        exact hk hP hS (lv_sub hl [2, 3, 4, 5, 6, 7] rfl)
      · rw [if_neg c116] at h
        refine lv_iconst (v := 0) hx hb d_law_948 ic_0 ?_
        cases h
  · rw [if_neg c112] at h
    refine lv_iconst (v := 0) hx hb d_law_931 ic_0 ?_
    cases h
def l_case13 (a1 : Int32) (M : fm_M) : Option fm_M :=
  bd (f_Law_state 0 a1 210 M) fun x101 M102 =>
  (ck 174 10).bind fun _ =>
  bd (f_Mo_state 174 a1 M102) fun x107 M105 =>
  (ck 174 10).bind fun _ =>
  bd (f_Mo_thrown 174 M105) fun x111 M109 =>
  if x111 = x101 then
    if x101 = 0 then
      (aj 210 0 M109).bind fun x114 =>
      if (lg_cmp x114 x107.toInt64) = 0 then
        some M109
      else
        none
    else
      some M109
  else
    none
set_option maxHeartbeats 4000000 in
set_option maxRecDepth 100000 in
theorem w_law_13 {p : Program} {l : Launch} {e : Env} {s : State} {m : MethodId} {below : List Frame} {meth : Method} {c : Code} {G : fm_G} {w0 : Cond} {b L : Nat} {xs : Nat → Int32} (C0 : fm_C p s m #[Value.ref b] meth c G w0 "AllocationProfilerLaw" code 9 (some .boolean)) (C1 : fx_S G s) (C2 : lx_S s) (hst : l.stackTraces = false) (hX : va_X b L xs s s.heap) (hbl : b < s.heap.size) (hbA : ¬ fm_A G.2.2 b) {cells slots : Nat} (hcs : cells + 1 ≤ 601024 ∧ slots + 6 ≤ 7293034) (i : Int32) (a1 : Int32) (ha1 : vp_in (i + 1) L ∧ xs (i + 1).toNatClampNeg = a1) {M M' : fm_M} {H : Heap} {locs : List Loc} (hP : kP G M H) (hS : kS G s H locs) {ls : Array Slot} (hl : lv_has ls 9 [(0, .ref b), (1, .ref (G.2.2 + 0)), (2, .ref (G.2.2 + 174)), (3, .ref (G.2.2 + 210)), (4, .ref (G.2.2 + 211)), (5, .int i)]) (h : l_case13 a1 M = some M')
    (hk : ∀ {H : Heap} {locs : List Loc}, kP G M' H → kS G s H locs → ∀ {ls : Array Slot}, lv_has ls 9 [(0, .ref b), (1, .ref (G.2.2 + 0)), (2, .ref (G.2.2 + 174)), (3, .ref (G.2.2 + 210)), (4, .ref (G.2.2 + 211)), (5, .int i)] → W p l e room_1 s m #[Value.ref b] below meth c H locs (cells + 1) (slots + 6) (lw_Z below #[Value.ref b] s) (F0 m 1556 ls [])) : W p l e room_1 s m #[Value.ref b] below meth c H locs cells slots (lw_Z below #[Value.ref b] s) (F0 m 953 ls []) := by
  have hx := C0.1
  have hb := C0.2.1
  unfold l_case13 at h
  refine lv_aload_n hx hb d_law_953 rfl (lv_at hl 1 rfl) ?_
  refine lv_aload_n hx hb d_law_954 rfl (lv_at hl 0 rfl) ?_
  refine lv_iload hx hb d_law_955 (lv_at hl 5 rfl) ?_
  refine lv_iconst (v := 1) hx hb d_law_957 ic_1 ?_
  refine lv_iadd hx hb d_law_958 ?_
  refine l_sld hx hb hX hbl hbA hS ha1 d_law_959 ?_
  refine lv_aload_n hx hb d_law_960 rfl (lv_at hl 3 rfl) ?_
  obtain ⟨x101, M102, e103, h⟩ := ob2 h
  refine l_cS C0 C1 C2 L_Law_149 (As := [.ref (G.2.2 + 0), .int a1, .ref (G.2.2 + 210)]) (c_Law_state l hst G 0 a1 210 e103) ⟨Nat.le_of_ble_eq_true rfl, Nat.le_of_ble_eq_true rfl⟩ hP hS rfl hl.1 rfl (Nat.le_of_ble_eq_true rfl) d_law_961 ⟨hcs.1, hcs.2⟩ (fun H locs hP hS => ?_)
  refine lv_istore (lv' := [(6, .int x101), (0, .ref b), (1, .ref (G.2.2 + 0)), (2, .ref (G.2.2 + 174)), (3, .ref (G.2.2 + 210)), (4, .ref (G.2.2 + 211)), (5, .int i)]) hx hb d_law_964 hl (by decide) rfl (fun ls hl => ?_)
  refine lv_aload_n hx hb d_law_966 rfl (lv_at hl 3 rfl) ?_
  refine lv_aload_n hx hb d_law_967 rfl (lv_at hl 1 rfl) ?_
  refine lv_iload hx hb d_law_968 (lv_at hl 6 rfl) ?_
  refine lv_iconst (v := 1) hx hb d_law_970 ic_1 ?_
  refine lv_iadd hx hb d_law_971 ?_
  refine l_sld hx hb hX hbl hbA hS ha1 d_law_972 ?_
  obtain ⟨_, e104, h⟩ := ob h
  obtain ⟨x107, M105, e106, h⟩ := ob2 h
  refine k_cV C0 L_Law_151 (As := [.int a1]) (c_Mo_state l G 174 a1 e106) ⟨rfl, rfl⟩ ⟨Nat.le_of_ble_eq_true rfl, Nat.le_of_ble_eq_true rfl⟩ hP hS (ck_of e104) ly_Mo rfl hl.1 rfl (Nat.le_of_ble_eq_true rfl) d_law_973 ⟨hcs.1, hcs.2⟩ (fun H locs hP hS => ?_)
  refine lv_istore (lv' := [(7, .int x107), (6, .int x101), (0, .ref b), (1, .ref (G.2.2 + 0)), (2, .ref (G.2.2 + 174)), (3, .ref (G.2.2 + 210)), (4, .ref (G.2.2 + 211)), (5, .int i)]) hx hb d_law_976 hl (by decide) rfl (fun ls hl => ?_)
  refine lv_aload_n hx hb d_law_978 rfl (lv_at hl 4 rfl) ?_
  obtain ⟨_, e108, h⟩ := ob h
  obtain ⟨x111, M109, e110, h⟩ := ob2 h
  refine k_cV C0 L_Law_102 (As := []) (c_Mo_thrown l G 174 e110) ⟨rfl, rfl⟩ ⟨Nat.le_of_ble_eq_true rfl, Nat.le_of_ble_eq_true rfl⟩ hP hS (ck_of e108) ly_Mo rfl hl.1 rfl (Nat.le_of_ble_eq_true rfl) d_law_979 ⟨hcs.1, hcs.2⟩ (fun H locs hP hS => ?_)
  refine lv_iload hx hb d_law_982 (lv_at hl 1 rfl) ?_
  refine lv_icmp_eq (tgt := 989) hx hb d_law_984 (by decide) (fun c112 => ?_) (fun c112 => ?_)
  · rw [if_pos c112] at h
    refine lv_iload hx hb d_law_989 (lv_at hl 1 rfl) ?_
    refine lv_if_ne (tgt := 1006) hx hb d_law_991 (by decide) (fun c113 => ?_) (fun c113 => ?_)
    · rw [if_neg c113] at h
      refine lv_goto (tgt := 1556) hx hb d_law_1006 (by decide) ?_
      cases h
      exact hk hP hS (lv_sub hl [2, 3, 4, 5, 6, 7] rfl)
    · rw [if_pos c113] at h
      refine lv_aload_n hx hb d_law_994 rfl (lv_at hl 5 rfl) ?_
      refine lv_iconst (v := 0) hx hb d_law_995 ic_0 ?_
      obtain ⟨x114, e115, h⟩ := ob h
      refine k_aj C0 hP e115 d_law_996 ?_
      refine lv_iload hx hb d_law_997 (lv_at hl 0 rfl) ?_
      refine lv_i2l hx hb d_law_999 rfl ?_
      refine W.lcmp hx hb d_law_1000 ?_
      refine lv_if_eq (tgt := 1006) hx hb d_law_1001 (by decide) (fun c116 => ?_) (fun c116 => ?_)
      · rw [if_pos c116] at h
        refine lv_goto (tgt := 1556) hx hb d_law_1006 (by decide) ?_
        cases h
        exact hk hP hS (lv_sub hl [2, 3, 4, 5, 6, 7] rfl)
      · rw [if_neg c116] at h
        refine lv_iconst (v := 0) hx hb d_law_1004 ic_0 ?_
        cases h
  · rw [if_neg c112] at h
    refine lv_iconst (v := 0) hx hb d_law_987 ic_0 ?_
    cases h
def l_case14 (a1 : Int32) (M : fm_M) : Option fm_M :=
  bd (f_Law_result 0 a1 210 M) fun x101 M102 =>
  (ck 174 10).bind fun _ =>
  bd (f_Mo_result 174 a1 M102) fun x107 M105 =>
  (ck 174 10).bind fun _ =>
  bd (f_Mo_thrown 174 M105) fun x111 M109 =>
  if x111 = x101 then
    if x101 = 0 then
      (aj 210 0 M109).bind fun x114 =>
      if (lg_cmp x114 x107.toInt64) = 0 then
        some M109
      else
        none
    else
      some M109
  else
    none
set_option maxHeartbeats 4000000 in
set_option maxRecDepth 100000 in
theorem w_law_14 {p : Program} {l : Launch} {e : Env} {s : State} {m : MethodId} {below : List Frame} {meth : Method} {c : Code} {G : fm_G} {w0 : Cond} {b L : Nat} {xs : Nat → Int32} (C0 : fm_C p s m #[Value.ref b] meth c G w0 "AllocationProfilerLaw" code 9 (some .boolean)) (C1 : fx_S G s) (C2 : lx_S s) (hst : l.stackTraces = false) (hX : va_X b L xs s s.heap) (hbl : b < s.heap.size) (hbA : ¬ fm_A G.2.2 b) {cells slots : Nat} (hcs : cells + 1 ≤ 601024 ∧ slots + 6 ≤ 7293034) (i : Int32) (a1 : Int32) (ha1 : vp_in (i + 1) L ∧ xs (i + 1).toNatClampNeg = a1) {M M' : fm_M} {H : Heap} {locs : List Loc} (hP : kP G M H) (hS : kS G s H locs) {ls : Array Slot} (hl : lv_has ls 9 [(0, .ref b), (1, .ref (G.2.2 + 0)), (2, .ref (G.2.2 + 174)), (3, .ref (G.2.2 + 210)), (4, .ref (G.2.2 + 211)), (5, .int i)]) (h : l_case14 a1 M = some M')
    (hk : ∀ {H : Heap} {locs : List Loc}, kP G M' H → kS G s H locs → ∀ {ls : Array Slot}, lv_has ls 9 [(0, .ref b), (1, .ref (G.2.2 + 0)), (2, .ref (G.2.2 + 174)), (3, .ref (G.2.2 + 210)), (4, .ref (G.2.2 + 211)), (5, .int i)] → W p l e room_1 s m #[Value.ref b] below meth c H locs (cells + 1) (slots + 6) (lw_Z below #[Value.ref b] s) (F0 m 1556 ls [])) : W p l e room_1 s m #[Value.ref b] below meth c H locs cells slots (lw_Z below #[Value.ref b] s) (F0 m 1009 ls []) := by
  have hx := C0.1
  have hb := C0.2.1
  unfold l_case14 at h
  refine lv_aload_n hx hb d_law_1009 rfl (lv_at hl 1 rfl) ?_
  refine lv_aload_n hx hb d_law_1010 rfl (lv_at hl 0 rfl) ?_
  refine lv_iload hx hb d_law_1011 (lv_at hl 5 rfl) ?_
  refine lv_iconst (v := 1) hx hb d_law_1013 ic_1 ?_
  refine lv_iadd hx hb d_law_1014 ?_
  refine l_sld hx hb hX hbl hbA hS ha1 d_law_1015 ?_
  refine lv_aload_n hx hb d_law_1016 rfl (lv_at hl 3 rfl) ?_
  obtain ⟨x101, M102, e103, h⟩ := ob2 h
  refine l_cS C0 C1 C2 L_Law_152 (As := [.ref (G.2.2 + 0), .int a1, .ref (G.2.2 + 210)]) (c_Law_result l hst G 0 a1 210 e103) ⟨Nat.le_of_ble_eq_true rfl, Nat.le_of_ble_eq_true rfl⟩ hP hS rfl hl.1 rfl (Nat.le_of_ble_eq_true rfl) d_law_1017 ⟨hcs.1, hcs.2⟩ (fun H locs hP hS => ?_)
  refine lv_istore (lv' := [(6, .int x101), (0, .ref b), (1, .ref (G.2.2 + 0)), (2, .ref (G.2.2 + 174)), (3, .ref (G.2.2 + 210)), (4, .ref (G.2.2 + 211)), (5, .int i)]) hx hb d_law_1020 hl (by decide) rfl (fun ls hl => ?_)
  refine lv_aload_n hx hb d_law_1022 rfl (lv_at hl 3 rfl) ?_
  refine lv_aload_n hx hb d_law_1023 rfl (lv_at hl 1 rfl) ?_
  refine lv_iload hx hb d_law_1024 (lv_at hl 6 rfl) ?_
  refine lv_iconst (v := 1) hx hb d_law_1026 ic_1 ?_
  refine lv_iadd hx hb d_law_1027 ?_
  refine l_sld hx hb hX hbl hbA hS ha1 d_law_1028 ?_
  obtain ⟨_, e104, h⟩ := ob h
  obtain ⟨x107, M105, e106, h⟩ := ob2 h
  refine k_cV C0 L_Law_154 (As := [.int a1]) (c_Mo_result l G 174 a1 e106) ⟨rfl, rfl⟩ ⟨Nat.le_of_ble_eq_true rfl, Nat.le_of_ble_eq_true rfl⟩ hP hS (ck_of e104) ly_Mo rfl hl.1 rfl (Nat.le_of_ble_eq_true rfl) d_law_1029 ⟨hcs.1, hcs.2⟩ (fun H locs hP hS => ?_)
  refine lv_istore (lv' := [(7, .int x107), (6, .int x101), (0, .ref b), (1, .ref (G.2.2 + 0)), (2, .ref (G.2.2 + 174)), (3, .ref (G.2.2 + 210)), (4, .ref (G.2.2 + 211)), (5, .int i)]) hx hb d_law_1032 hl (by decide) rfl (fun ls hl => ?_)
  refine lv_aload_n hx hb d_law_1034 rfl (lv_at hl 4 rfl) ?_
  obtain ⟨_, e108, h⟩ := ob h
  obtain ⟨x111, M109, e110, h⟩ := ob2 h
  refine k_cV C0 L_Law_102 (As := []) (c_Mo_thrown l G 174 e110) ⟨rfl, rfl⟩ ⟨Nat.le_of_ble_eq_true rfl, Nat.le_of_ble_eq_true rfl⟩ hP hS (ck_of e108) ly_Mo rfl hl.1 rfl (Nat.le_of_ble_eq_true rfl) d_law_1035 ⟨hcs.1, hcs.2⟩ (fun H locs hP hS => ?_)
  refine lv_iload hx hb d_law_1038 (lv_at hl 1 rfl) ?_
  refine lv_icmp_eq (tgt := 1045) hx hb d_law_1040 (by decide) (fun c112 => ?_) (fun c112 => ?_)
  · rw [if_pos c112] at h
    refine lv_iload hx hb d_law_1045 (lv_at hl 1 rfl) ?_
    refine lv_if_ne (tgt := 1062) hx hb d_law_1047 (by decide) (fun c113 => ?_) (fun c113 => ?_)
    · rw [if_neg c113] at h
      refine lv_goto (tgt := 1556) hx hb d_law_1062 (by decide) ?_
      cases h
      exact hk hP hS (lv_sub hl [2, 3, 4, 5, 6, 7] rfl)
    · rw [if_pos c113] at h
      refine lv_aload_n hx hb d_law_1050 rfl (lv_at hl 5 rfl) ?_
      refine lv_iconst (v := 0) hx hb d_law_1051 ic_0 ?_
      obtain ⟨x114, e115, h⟩ := ob h
      refine k_aj C0 hP e115 d_law_1052 ?_
      refine lv_iload hx hb d_law_1053 (lv_at hl 0 rfl) ?_
      refine lv_i2l hx hb d_law_1055 rfl ?_
      refine W.lcmp hx hb d_law_1056 ?_
      refine lv_if_eq (tgt := 1062) hx hb d_law_1057 (by decide) (fun c116 => ?_) (fun c116 => ?_)
      · rw [if_pos c116] at h
        refine lv_goto (tgt := 1556) hx hb d_law_1062 (by decide) ?_
        cases h
        exact hk hP hS (lv_sub hl [2, 3, 4, 5, 6, 7] rfl)
      · rw [if_neg c116] at h
        refine lv_iconst (v := 0) hx hb d_law_1060 ic_0 ?_
        cases h
  · rw [if_neg c112] at h
    refine lv_iconst (v := 0) hx hb d_law_1043 ic_0 ?_
    cases h
def l_case15 (a1 : Int32) (M : fm_M) : Option fm_M :=
  bd (f_Law_object 0 a1 210 M) fun x101 M102 =>
  (ck 174 10).bind fun _ =>
  bd (f_Mo_object 174 a1 M102) fun x107 M105 =>
  (ck 174 10).bind fun _ =>
  bd (f_Mo_thrown 174 M105) fun x111 M109 =>
  if x111 = x101 then
    if x101 = 0 then
      (aj 210 0 M109).bind fun x114 =>
      if (lg_cmp x114 x107.toInt64) = 0 then
        some M109
      else
        none
    else
      some M109
  else
    none
set_option maxHeartbeats 4000000 in
set_option maxRecDepth 100000 in
theorem w_law_15 {p : Program} {l : Launch} {e : Env} {s : State} {m : MethodId} {below : List Frame} {meth : Method} {c : Code} {G : fm_G} {w0 : Cond} {b L : Nat} {xs : Nat → Int32} (C0 : fm_C p s m #[Value.ref b] meth c G w0 "AllocationProfilerLaw" code 9 (some .boolean)) (C1 : fx_S G s) (C2 : lx_S s) (hst : l.stackTraces = false) (hX : va_X b L xs s s.heap) (hbl : b < s.heap.size) (hbA : ¬ fm_A G.2.2 b) {cells slots : Nat} (hcs : cells + 1 ≤ 601024 ∧ slots + 6 ≤ 7293034) (i : Int32) (a1 : Int32) (ha1 : vp_in (i + 1) L ∧ xs (i + 1).toNatClampNeg = a1) {M M' : fm_M} {H : Heap} {locs : List Loc} (hP : kP G M H) (hS : kS G s H locs) {ls : Array Slot} (hl : lv_has ls 9 [(0, .ref b), (1, .ref (G.2.2 + 0)), (2, .ref (G.2.2 + 174)), (3, .ref (G.2.2 + 210)), (4, .ref (G.2.2 + 211)), (5, .int i)]) (h : l_case15 a1 M = some M')
    (hk : ∀ {H : Heap} {locs : List Loc}, kP G M' H → kS G s H locs → ∀ {ls : Array Slot}, lv_has ls 9 [(0, .ref b), (1, .ref (G.2.2 + 0)), (2, .ref (G.2.2 + 174)), (3, .ref (G.2.2 + 210)), (4, .ref (G.2.2 + 211)), (5, .int i)] → W p l e room_1 s m #[Value.ref b] below meth c H locs (cells + 1) (slots + 6) (lw_Z below #[Value.ref b] s) (F0 m 1556 ls [])) : W p l e room_1 s m #[Value.ref b] below meth c H locs cells slots (lw_Z below #[Value.ref b] s) (F0 m 1065 ls []) := by
  have hx := C0.1
  have hb := C0.2.1
  unfold l_case15 at h
  refine lv_aload_n hx hb d_law_1065 rfl (lv_at hl 1 rfl) ?_
  refine lv_aload_n hx hb d_law_1066 rfl (lv_at hl 0 rfl) ?_
  refine lv_iload hx hb d_law_1067 (lv_at hl 5 rfl) ?_
  refine lv_iconst (v := 1) hx hb d_law_1069 ic_1 ?_
  refine lv_iadd hx hb d_law_1070 ?_
  refine l_sld hx hb hX hbl hbA hS ha1 d_law_1071 ?_
  refine lv_aload_n hx hb d_law_1072 rfl (lv_at hl 3 rfl) ?_
  obtain ⟨x101, M102, e103, h⟩ := ob2 h
  refine l_cS C0 C1 C2 L_Law_155 (As := [.ref (G.2.2 + 0), .int a1, .ref (G.2.2 + 210)]) (c_Law_object l hst G 0 a1 210 e103) ⟨Nat.le_of_ble_eq_true rfl, Nat.le_of_ble_eq_true rfl⟩ hP hS rfl hl.1 rfl (Nat.le_of_ble_eq_true rfl) d_law_1073 ⟨hcs.1, hcs.2⟩ (fun H locs hP hS => ?_)
  refine lv_istore (lv' := [(6, .int x101), (0, .ref b), (1, .ref (G.2.2 + 0)), (2, .ref (G.2.2 + 174)), (3, .ref (G.2.2 + 210)), (4, .ref (G.2.2 + 211)), (5, .int i)]) hx hb d_law_1076 hl (by decide) rfl (fun ls hl => ?_)
  refine lv_aload_n hx hb d_law_1078 rfl (lv_at hl 3 rfl) ?_
  refine lv_aload_n hx hb d_law_1079 rfl (lv_at hl 1 rfl) ?_
  refine lv_iload hx hb d_law_1080 (lv_at hl 6 rfl) ?_
  refine lv_iconst (v := 1) hx hb d_law_1082 ic_1 ?_
  refine lv_iadd hx hb d_law_1083 ?_
  refine l_sld hx hb hX hbl hbA hS ha1 d_law_1084 ?_
  obtain ⟨_, e104, h⟩ := ob h
  obtain ⟨x107, M105, e106, h⟩ := ob2 h
  refine k_cV C0 L_Law_157 (As := [.int a1]) (c_Mo_object l G 174 a1 e106) ⟨rfl, rfl⟩ ⟨Nat.le_of_ble_eq_true rfl, Nat.le_of_ble_eq_true rfl⟩ hP hS (ck_of e104) ly_Mo rfl hl.1 rfl (Nat.le_of_ble_eq_true rfl) d_law_1085 ⟨hcs.1, hcs.2⟩ (fun H locs hP hS => ?_)
  refine lv_istore (lv' := [(7, .int x107), (6, .int x101), (0, .ref b), (1, .ref (G.2.2 + 0)), (2, .ref (G.2.2 + 174)), (3, .ref (G.2.2 + 210)), (4, .ref (G.2.2 + 211)), (5, .int i)]) hx hb d_law_1088 hl (by decide) rfl (fun ls hl => ?_)
  refine lv_aload_n hx hb d_law_1090 rfl (lv_at hl 4 rfl) ?_
  obtain ⟨_, e108, h⟩ := ob h
  obtain ⟨x111, M109, e110, h⟩ := ob2 h
  refine k_cV C0 L_Law_102 (As := []) (c_Mo_thrown l G 174 e110) ⟨rfl, rfl⟩ ⟨Nat.le_of_ble_eq_true rfl, Nat.le_of_ble_eq_true rfl⟩ hP hS (ck_of e108) ly_Mo rfl hl.1 rfl (Nat.le_of_ble_eq_true rfl) d_law_1091 ⟨hcs.1, hcs.2⟩ (fun H locs hP hS => ?_)
  refine lv_iload hx hb d_law_1094 (lv_at hl 1 rfl) ?_
  refine lv_icmp_eq (tgt := 1101) hx hb d_law_1096 (by decide) (fun c112 => ?_) (fun c112 => ?_)
  · rw [if_pos c112] at h
    refine lv_iload hx hb d_law_1101 (lv_at hl 1 rfl) ?_
    refine lv_if_ne (tgt := 1118) hx hb d_law_1103 (by decide) (fun c113 => ?_) (fun c113 => ?_)
    · rw [if_neg c113] at h
      refine lv_goto (tgt := 1556) hx hb d_law_1118 (by decide) ?_
      cases h
      exact hk hP hS (lv_sub hl [2, 3, 4, 5, 6, 7] rfl)
    · rw [if_pos c113] at h
      refine lv_aload_n hx hb d_law_1106 rfl (lv_at hl 5 rfl) ?_
      refine lv_iconst (v := 0) hx hb d_law_1107 ic_0 ?_
      obtain ⟨x114, e115, h⟩ := ob h
      refine k_aj C0 hP e115 d_law_1108 ?_
      refine lv_iload hx hb d_law_1109 (lv_at hl 0 rfl) ?_
      refine lv_i2l hx hb d_law_1111 rfl ?_
      refine W.lcmp hx hb d_law_1112 ?_
      refine lv_if_eq (tgt := 1118) hx hb d_law_1113 (by decide) (fun c116 => ?_) (fun c116 => ?_)
      · rw [if_pos c116] at h
        refine lv_goto (tgt := 1556) hx hb d_law_1118 (by decide) ?_
        cases h
        exact hk hP hS (lv_sub hl [2, 3, 4, 5, 6, 7] rfl)
      · rw [if_neg c116] at h
        refine lv_iconst (v := 0) hx hb d_law_1116 ic_0 ?_
        cases h
  · rw [if_neg c112] at h
    refine lv_iconst (v := 0) hx hb d_law_1099 ic_0 ?_
    cases h
def l_case16 (a1 : Int32) (a2 : Int32) (a3 : Int32) (M : fm_M) : Option fm_M :=
  bd (f_Law_count 0 a1 a2 a3 210 M) fun x101 M102 =>
  (ck 174 10).bind fun _ =>
  bd (f_Mo_count 174 a1 a2 a3 M102) fun x107 M105 =>
  (ck 174 10).bind fun _ =>
  bd (f_Mo_thrown 174 M105) fun x111 M109 =>
  if x111 = x101 then
    if x101 = 0 then
      (aj 210 0 M109).bind fun x114 =>
      if (lg_cmp x114 x107) = 0 then
        some M109
      else
        none
    else
      some M109
  else
    none
set_option maxHeartbeats 4000000 in
set_option maxRecDepth 100000 in
theorem w_law_16 {p : Program} {l : Launch} {e : Env} {s : State} {m : MethodId} {below : List Frame} {meth : Method} {c : Code} {G : fm_G} {w0 : Cond} {b L : Nat} {xs : Nat → Int32} (C0 : fm_C p s m #[Value.ref b] meth c G w0 "AllocationProfilerLaw" code 9 (some .boolean)) (C1 : fx_S G s) (C2 : lx_S s) (hst : l.stackTraces = false) (hX : va_X b L xs s s.heap) (hbl : b < s.heap.size) (hbA : ¬ fm_A G.2.2 b) {cells slots : Nat} (hcs : cells + 1 ≤ 601024 ∧ slots + 6 ≤ 7293034) (i : Int32) (a1 : Int32) (a2 : Int32) (a3 : Int32) (ha1 : vp_in (i + 1) L ∧ xs (i + 1).toNatClampNeg = a1) (ha2 : vp_in (i + 2) L ∧ xs (i + 2).toNatClampNeg = a2) (ha3 : vp_in (i + 3) L ∧ xs (i + 3).toNatClampNeg = a3) {M M' : fm_M} {H : Heap} {locs : List Loc} (hP : kP G M H) (hS : kS G s H locs) {ls : Array Slot} (hl : lv_has ls 9 [(0, .ref b), (1, .ref (G.2.2 + 0)), (2, .ref (G.2.2 + 174)), (3, .ref (G.2.2 + 210)), (4, .ref (G.2.2 + 211)), (5, .int i)]) (h : l_case16 a1 a2 a3 M = some M')
    (hk : ∀ {H : Heap} {locs : List Loc}, kP G M' H → kS G s H locs → ∀ {ls : Array Slot}, lv_has ls 9 [(0, .ref b), (1, .ref (G.2.2 + 0)), (2, .ref (G.2.2 + 174)), (3, .ref (G.2.2 + 210)), (4, .ref (G.2.2 + 211)), (5, .int i)] → W p l e room_1 s m #[Value.ref b] below meth c H locs (cells + 1) (slots + 6) (lw_Z below #[Value.ref b] s) (F0 m 1556 ls [])) : W p l e room_1 s m #[Value.ref b] below meth c H locs cells slots (lw_Z below #[Value.ref b] s) (F0 m 1121 ls []) := by
  have hx := C0.1
  have hb := C0.2.1
  unfold l_case16 at h
  refine lv_aload_n hx hb d_law_1121 rfl (lv_at hl 1 rfl) ?_
  refine lv_aload_n hx hb d_law_1122 rfl (lv_at hl 0 rfl) ?_
  refine lv_iload hx hb d_law_1123 (lv_at hl 5 rfl) ?_
  refine lv_iconst (v := 1) hx hb d_law_1125 ic_1 ?_
  refine lv_iadd hx hb d_law_1126 ?_
  refine l_sld hx hb hX hbl hbA hS ha1 d_law_1127 ?_
  refine lv_aload_n hx hb d_law_1128 rfl (lv_at hl 0 rfl) ?_
  refine lv_iload hx hb d_law_1129 (lv_at hl 5 rfl) ?_
  refine lv_iconst (v := 2) hx hb d_law_1131 ic_2 ?_
  refine lv_iadd hx hb d_law_1132 ?_
  refine l_sld hx hb hX hbl hbA hS ha2 d_law_1133 ?_
  refine lv_aload_n hx hb d_law_1134 rfl (lv_at hl 0 rfl) ?_
  refine lv_iload hx hb d_law_1135 (lv_at hl 5 rfl) ?_
  refine lv_iconst (v := 3) hx hb d_law_1137 ic_3 ?_
  refine lv_iadd hx hb d_law_1138 ?_
  refine l_sld hx hb hX hbl hbA hS ha3 d_law_1139 ?_
  refine lv_aload_n hx hb d_law_1140 rfl (lv_at hl 3 rfl) ?_
  obtain ⟨x101, M102, e103, h⟩ := ob2 h
  refine l_cS C0 C1 C2 L_Law_158 (As := [.ref (G.2.2 + 0), .int a1, .int a2, .int a3, .ref (G.2.2 + 210)]) (c_Law_count l hst G 0 a1 a2 a3 210 e103) ⟨Nat.le_of_ble_eq_true rfl, Nat.le_of_ble_eq_true rfl⟩ hP hS rfl hl.1 rfl (Nat.le_of_ble_eq_true rfl) d_law_1141 ⟨hcs.1, hcs.2⟩ (fun H locs hP hS => ?_)
  refine lv_istore (lv' := [(6, .int x101), (0, .ref b), (1, .ref (G.2.2 + 0)), (2, .ref (G.2.2 + 174)), (3, .ref (G.2.2 + 210)), (4, .ref (G.2.2 + 211)), (5, .int i)]) hx hb d_law_1144 hl (by decide) rfl (fun ls hl => ?_)
  refine lv_aload_n hx hb d_law_1146 rfl (lv_at hl 3 rfl) ?_
  refine lv_aload_n hx hb d_law_1147 rfl (lv_at hl 1 rfl) ?_
  refine lv_iload hx hb d_law_1148 (lv_at hl 6 rfl) ?_
  refine lv_iconst (v := 1) hx hb d_law_1150 ic_1 ?_
  refine lv_iadd hx hb d_law_1151 ?_
  refine l_sld hx hb hX hbl hbA hS ha1 d_law_1152 ?_
  refine lv_aload_n hx hb d_law_1153 rfl (lv_at hl 1 rfl) ?_
  refine lv_iload hx hb d_law_1154 (lv_at hl 6 rfl) ?_
  refine lv_iconst (v := 2) hx hb d_law_1156 ic_2 ?_
  refine lv_iadd hx hb d_law_1157 ?_
  refine l_sld hx hb hX hbl hbA hS ha2 d_law_1158 ?_
  refine lv_aload_n hx hb d_law_1159 rfl (lv_at hl 1 rfl) ?_
  refine lv_iload hx hb d_law_1160 (lv_at hl 6 rfl) ?_
  refine lv_iconst (v := 3) hx hb d_law_1162 ic_3 ?_
  refine lv_iadd hx hb d_law_1163 ?_
  refine l_sld hx hb hX hbl hbA hS ha3 d_law_1164 ?_
  obtain ⟨_, e104, h⟩ := ob h
  obtain ⟨x107, M105, e106, h⟩ := ob2 h
  refine k_cV C0 L_Law_160 (As := [.int a1, .int a2, .int a3]) (c_Mo_count l G 174 a1 a2 a3 e106) ⟨rfl, rfl⟩ ⟨Nat.le_of_ble_eq_true rfl, Nat.le_of_ble_eq_true rfl⟩ hP hS (ck_of e104) ly_Mo rfl hl.1 rfl (Nat.le_of_ble_eq_true rfl) d_law_1165 ⟨hcs.1, hcs.2⟩ (fun H locs hP hS => ?_)
  refine lv_lstore (lv' := [(7, .long x107), (6, .int x101), (0, .ref b), (1, .ref (G.2.2 + 0)), (2, .ref (G.2.2 + 174)), (3, .ref (G.2.2 + 210)), (4, .ref (G.2.2 + 211)), (5, .int i)]) hx hb d_law_1168 hl (by decide) rfl (fun ls hl => ?_)
  refine lv_aload_n hx hb d_law_1170 rfl (lv_at hl 4 rfl) ?_
  obtain ⟨_, e108, h⟩ := ob h
  obtain ⟨x111, M109, e110, h⟩ := ob2 h
  refine k_cV C0 L_Law_102 (As := []) (c_Mo_thrown l G 174 e110) ⟨rfl, rfl⟩ ⟨Nat.le_of_ble_eq_true rfl, Nat.le_of_ble_eq_true rfl⟩ hP hS (ck_of e108) ly_Mo rfl hl.1 rfl (Nat.le_of_ble_eq_true rfl) d_law_1171 ⟨hcs.1, hcs.2⟩ (fun H locs hP hS => ?_)
  refine lv_iload hx hb d_law_1174 (lv_at hl 1 rfl) ?_
  refine lv_icmp_eq (tgt := 1181) hx hb d_law_1176 (by decide) (fun c112 => ?_) (fun c112 => ?_)
  · rw [if_pos c112] at h
    refine lv_iload hx hb d_law_1181 (lv_at hl 1 rfl) ?_
    refine lv_if_ne (tgt := 1197) hx hb d_law_1183 (by decide) (fun c113 => ?_) (fun c113 => ?_)
    · rw [if_neg c113] at h
      refine lv_goto (tgt := 1556) hx hb d_law_1197 (by decide) ?_
      cases h
      exact hk hP hS (lv_sub hl [2, 3, 4, 5, 6, 7] rfl)
    · rw [if_pos c113] at h
      refine lv_aload_n hx hb d_law_1186 rfl (lv_at hl 5 rfl) ?_
      refine lv_iconst (v := 0) hx hb d_law_1187 ic_0 ?_
      obtain ⟨x114, e115, h⟩ := ob h
      refine k_aj C0 hP e115 d_law_1188 ?_
      refine lv_lload hx hb d_law_1189 (lv_at hl 0 rfl) ?_
      refine W.lcmp hx hb d_law_1191 ?_
      refine lv_if_eq (tgt := 1197) hx hb d_law_1192 (by decide) (fun c116 => ?_) (fun c116 => ?_)
      · rw [if_pos c116] at h
        refine lv_goto (tgt := 1556) hx hb d_law_1197 (by decide) ?_
        cases h
        exact hk hP hS (lv_sub hl [2, 3, 4, 5, 6, 7] rfl)
      · rw [if_neg c116] at h
        refine lv_iconst (v := 0) hx hb d_law_1195 ic_0 ?_
        cases h
  · rw [if_neg c112] at h
    refine lv_iconst (v := 0) hx hb d_law_1179 ic_0 ?_
    cases h
def l_case17 (a1 : Int32) (a2 : Int32) (M : fm_M) : Option fm_M :=
  bd (f_Law_entry 0 a1 a2 210 M) fun x101 M102 =>
  (ck 174 10).bind fun _ =>
  bd (f_Mo_entry 174 a1 a2 M102) fun x107 M105 =>
  (ck 174 10).bind fun _ =>
  bd (f_Mo_thrown 174 M105) fun x111 M109 =>
  if x111 = x101 then
    if x101 = 0 then
      (aj 210 0 M109).bind fun x114 =>
      if (lg_cmp x114 x107.toInt64) = 0 then
        some M109
      else
        none
    else
      some M109
  else
    none
set_option maxHeartbeats 4000000 in
set_option maxRecDepth 100000 in
theorem w_law_17 {p : Program} {l : Launch} {e : Env} {s : State} {m : MethodId} {below : List Frame} {meth : Method} {c : Code} {G : fm_G} {w0 : Cond} {b L : Nat} {xs : Nat → Int32} (C0 : fm_C p s m #[Value.ref b] meth c G w0 "AllocationProfilerLaw" code 9 (some .boolean)) (C1 : fx_S G s) (C2 : lx_S s) (hst : l.stackTraces = false) (hX : va_X b L xs s s.heap) (hbl : b < s.heap.size) (hbA : ¬ fm_A G.2.2 b) {cells slots : Nat} (hcs : cells + 1 ≤ 601024 ∧ slots + 6 ≤ 7293034) (i : Int32) (a1 : Int32) (a2 : Int32) (ha1 : vp_in (i + 1) L ∧ xs (i + 1).toNatClampNeg = a1) (ha2 : vp_in (i + 2) L ∧ xs (i + 2).toNatClampNeg = a2) {M M' : fm_M} {H : Heap} {locs : List Loc} (hP : kP G M H) (hS : kS G s H locs) {ls : Array Slot} (hl : lv_has ls 9 [(0, .ref b), (1, .ref (G.2.2 + 0)), (2, .ref (G.2.2 + 174)), (3, .ref (G.2.2 + 210)), (4, .ref (G.2.2 + 211)), (5, .int i)]) (h : l_case17 a1 a2 M = some M')
    (hk : ∀ {H : Heap} {locs : List Loc}, kP G M' H → kS G s H locs → ∀ {ls : Array Slot}, lv_has ls 9 [(0, .ref b), (1, .ref (G.2.2 + 0)), (2, .ref (G.2.2 + 174)), (3, .ref (G.2.2 + 210)), (4, .ref (G.2.2 + 211)), (5, .int i)] → W p l e room_1 s m #[Value.ref b] below meth c H locs (cells + 1) (slots + 6) (lw_Z below #[Value.ref b] s) (F0 m 1556 ls [])) : W p l e room_1 s m #[Value.ref b] below meth c H locs cells slots (lw_Z below #[Value.ref b] s) (F0 m 1200 ls []) := by
  have hx := C0.1
  have hb := C0.2.1
  unfold l_case17 at h
  refine lv_aload_n hx hb d_law_1200 rfl (lv_at hl 1 rfl) ?_
  refine lv_aload_n hx hb d_law_1201 rfl (lv_at hl 0 rfl) ?_
  refine lv_iload hx hb d_law_1202 (lv_at hl 5 rfl) ?_
  refine lv_iconst (v := 1) hx hb d_law_1204 ic_1 ?_
  refine lv_iadd hx hb d_law_1205 ?_
  refine l_sld hx hb hX hbl hbA hS ha1 d_law_1206 ?_
  refine lv_aload_n hx hb d_law_1207 rfl (lv_at hl 0 rfl) ?_
  refine lv_iload hx hb d_law_1208 (lv_at hl 5 rfl) ?_
  refine lv_iconst (v := 2) hx hb d_law_1210 ic_2 ?_
  refine lv_iadd hx hb d_law_1211 ?_
  refine l_sld hx hb hX hbl hbA hS ha2 d_law_1212 ?_
  refine lv_aload_n hx hb d_law_1213 rfl (lv_at hl 3 rfl) ?_
  obtain ⟨x101, M102, e103, h⟩ := ob2 h
  refine l_cS C0 C1 C2 L_Law_161 (As := [.ref (G.2.2 + 0), .int a1, .int a2, .ref (G.2.2 + 210)]) (c_Law_entry l hst G 0 a1 a2 210 e103) ⟨Nat.le_of_ble_eq_true rfl, Nat.le_of_ble_eq_true rfl⟩ hP hS rfl hl.1 rfl (Nat.le_of_ble_eq_true rfl) d_law_1214 ⟨hcs.1, hcs.2⟩ (fun H locs hP hS => ?_)
  refine lv_istore (lv' := [(6, .int x101), (0, .ref b), (1, .ref (G.2.2 + 0)), (2, .ref (G.2.2 + 174)), (3, .ref (G.2.2 + 210)), (4, .ref (G.2.2 + 211)), (5, .int i)]) hx hb d_law_1217 hl (by decide) rfl (fun ls hl => ?_)
  refine lv_aload_n hx hb d_law_1219 rfl (lv_at hl 3 rfl) ?_
  refine lv_aload_n hx hb d_law_1220 rfl (lv_at hl 1 rfl) ?_
  refine lv_iload hx hb d_law_1221 (lv_at hl 6 rfl) ?_
  refine lv_iconst (v := 1) hx hb d_law_1223 ic_1 ?_
  refine lv_iadd hx hb d_law_1224 ?_
  refine l_sld hx hb hX hbl hbA hS ha1 d_law_1225 ?_
  refine lv_aload_n hx hb d_law_1226 rfl (lv_at hl 1 rfl) ?_
  refine lv_iload hx hb d_law_1227 (lv_at hl 6 rfl) ?_
  refine lv_iconst (v := 2) hx hb d_law_1229 ic_2 ?_
  refine lv_iadd hx hb d_law_1230 ?_
  refine l_sld hx hb hX hbl hbA hS ha2 d_law_1231 ?_
  obtain ⟨_, e104, h⟩ := ob h
  obtain ⟨x107, M105, e106, h⟩ := ob2 h
  refine k_cV C0 L_Law_163 (As := [.int a1, .int a2]) (c_Mo_entry l G 174 a1 a2 e106) ⟨rfl, rfl⟩ ⟨Nat.le_of_ble_eq_true rfl, Nat.le_of_ble_eq_true rfl⟩ hP hS (ck_of e104) ly_Mo rfl hl.1 rfl (Nat.le_of_ble_eq_true rfl) d_law_1232 ⟨hcs.1, hcs.2⟩ (fun H locs hP hS => ?_)
  refine lv_istore (lv' := [(7, .int x107), (6, .int x101), (0, .ref b), (1, .ref (G.2.2 + 0)), (2, .ref (G.2.2 + 174)), (3, .ref (G.2.2 + 210)), (4, .ref (G.2.2 + 211)), (5, .int i)]) hx hb d_law_1235 hl (by decide) rfl (fun ls hl => ?_)
  refine lv_aload_n hx hb d_law_1237 rfl (lv_at hl 4 rfl) ?_
  obtain ⟨_, e108, h⟩ := ob h
  obtain ⟨x111, M109, e110, h⟩ := ob2 h
  refine k_cV C0 L_Law_102 (As := []) (c_Mo_thrown l G 174 e110) ⟨rfl, rfl⟩ ⟨Nat.le_of_ble_eq_true rfl, Nat.le_of_ble_eq_true rfl⟩ hP hS (ck_of e108) ly_Mo rfl hl.1 rfl (Nat.le_of_ble_eq_true rfl) d_law_1238 ⟨hcs.1, hcs.2⟩ (fun H locs hP hS => ?_)
  refine lv_iload hx hb d_law_1241 (lv_at hl 1 rfl) ?_
  refine lv_icmp_eq (tgt := 1248) hx hb d_law_1243 (by decide) (fun c112 => ?_) (fun c112 => ?_)
  · rw [if_pos c112] at h
    refine lv_iload hx hb d_law_1248 (lv_at hl 1 rfl) ?_
    refine lv_if_ne (tgt := 1265) hx hb d_law_1250 (by decide) (fun c113 => ?_) (fun c113 => ?_)
    · rw [if_neg c113] at h
      refine lv_goto (tgt := 1556) hx hb d_law_1265 (by decide) ?_
      cases h
      exact hk hP hS (lv_sub hl [2, 3, 4, 5, 6, 7] rfl)
    · rw [if_pos c113] at h
      refine lv_aload_n hx hb d_law_1253 rfl (lv_at hl 5 rfl) ?_
      refine lv_iconst (v := 0) hx hb d_law_1254 ic_0 ?_
      obtain ⟨x114, e115, h⟩ := ob h
      refine k_aj C0 hP e115 d_law_1255 ?_
      refine lv_iload hx hb d_law_1256 (lv_at hl 0 rfl) ?_
      refine lv_i2l hx hb d_law_1258 rfl ?_
      refine W.lcmp hx hb d_law_1259 ?_
      refine lv_if_eq (tgt := 1265) hx hb d_law_1260 (by decide) (fun c116 => ?_) (fun c116 => ?_)
      · rw [if_pos c116] at h
        refine lv_goto (tgt := 1556) hx hb d_law_1265 (by decide) ?_
        cases h
        exact hk hP hS (lv_sub hl [2, 3, 4, 5, 6, 7] rfl)
      · rw [if_neg c116] at h
        refine lv_iconst (v := 0) hx hb d_law_1263 ic_0 ?_
        cases h
  · rw [if_neg c112] at h
    refine lv_iconst (v := 0) hx hb d_law_1246 ic_0 ?_
    cases h
def l_case18 (a1 : Int32) (M : fm_M) : Option fm_M :=
  bd (f_Law_rate 0 a1 211 M) fun x101 M102 =>
  (ck 174 10).bind fun _ =>
  bd (f_Mo_rate 174 a1 M102) fun x107 M105 =>
  (ck 174 10).bind fun _ =>
  bd (f_Mo_thrown 174 M105) fun x111 M109 =>
  if x111 = x101 then
    if x101 = 0 then
      (ad 211 0 M109).bind fun x114 =>
      (nn64 (FP.f2d x107)).bind fun _ =>
      if (Op.cmpValue (FP.dcmp x114 (FP.f2d x107)) .l) = 0 then
        some M109
      else
        (ad 211 0 M109).bind fun x118 =>
        (ad 211 0 M109).bind fun x120 =>
        if (Op.cmpValue (FP.dcmp x118 x120) .l) = 0 then
          none
        else
          if (Op.cmpValue (FP.fcmp x107 x107) .l) = 0 then
            none
          else
            some M109
    else
      some M109
  else
    none
set_option maxHeartbeats 4000000 in
set_option maxRecDepth 100000 in
theorem w_law_18 {p : Program} {l : Launch} {e : Env} {s : State} {m : MethodId} {below : List Frame} {meth : Method} {c : Code} {G : fm_G} {w0 : Cond} {b L : Nat} {xs : Nat → Int32} (C0 : fm_C p s m #[Value.ref b] meth c G w0 "AllocationProfilerLaw" code 9 (some .boolean)) (C1 : fx_S G s) (C2 : lx_S s) (hst : l.stackTraces = false) (hX : va_X b L xs s s.heap) (hbl : b < s.heap.size) (hbA : ¬ fm_A G.2.2 b) {cells slots : Nat} (hcs : cells + 1 ≤ 601024 ∧ slots + 6 ≤ 7293034) (i : Int32) (a1 : Int32) (ha1 : vp_in (i + 1) L ∧ xs (i + 1).toNatClampNeg = a1) {M M' : fm_M} {H : Heap} {locs : List Loc} (hP : kP G M H) (hS : kS G s H locs) {ls : Array Slot} (hl : lv_has ls 9 [(0, .ref b), (1, .ref (G.2.2 + 0)), (2, .ref (G.2.2 + 174)), (3, .ref (G.2.2 + 210)), (4, .ref (G.2.2 + 211)), (5, .int i)]) (h : l_case18 a1 M = some M')
    (hk : ∀ {H : Heap} {locs : List Loc}, kP G M' H → kS G s H locs → ∀ {ls : Array Slot}, lv_has ls 9 [(0, .ref b), (1, .ref (G.2.2 + 0)), (2, .ref (G.2.2 + 174)), (3, .ref (G.2.2 + 210)), (4, .ref (G.2.2 + 211)), (5, .int i)] → W p l e room_1 s m #[Value.ref b] below meth c H locs (cells + 1) (slots + 6) (lw_Z below #[Value.ref b] s) (F0 m 1556 ls [])) : W p l e room_1 s m #[Value.ref b] below meth c H locs cells slots (lw_Z below #[Value.ref b] s) (F0 m 1268 ls []) := by
  have hx := C0.1
  have hb := C0.2.1
  unfold l_case18 at h
  refine lv_aload_n hx hb d_law_1268 rfl (lv_at hl 1 rfl) ?_
  refine lv_aload_n hx hb d_law_1269 rfl (lv_at hl 0 rfl) ?_
  refine lv_iload hx hb d_law_1270 (lv_at hl 5 rfl) ?_
  refine lv_iconst (v := 1) hx hb d_law_1272 ic_1 ?_
  refine lv_iadd hx hb d_law_1273 ?_
  refine l_sld hx hb hX hbl hbA hS ha1 d_law_1274 ?_
  refine lv_aload hx hb d_law_1275 (lv_at hl 4 rfl) ?_
  obtain ⟨x101, M102, e103, h⟩ := ob2 h
  refine l_cS C0 C1 C2 L_Law_164 (As := [.ref (G.2.2 + 0), .int a1, .ref (G.2.2 + 211)]) (c_Law_rate l hst G 0 a1 211 e103) ⟨Nat.le_of_ble_eq_true rfl, Nat.le_of_ble_eq_true rfl⟩ hP hS rfl hl.1 rfl (Nat.le_of_ble_eq_true rfl) d_law_1277 ⟨hcs.1, hcs.2⟩ (fun H locs hP hS => ?_)
  refine lv_istore (lv' := [(6, .int x101), (0, .ref b), (1, .ref (G.2.2 + 0)), (2, .ref (G.2.2 + 174)), (3, .ref (G.2.2 + 210)), (4, .ref (G.2.2 + 211)), (5, .int i)]) hx hb d_law_1280 hl (by decide) rfl (fun ls hl => ?_)
  refine lv_aload_n hx hb d_law_1282 rfl (lv_at hl 3 rfl) ?_
  refine lv_aload_n hx hb d_law_1283 rfl (lv_at hl 1 rfl) ?_
  refine lv_iload hx hb d_law_1284 (lv_at hl 6 rfl) ?_
  refine lv_iconst (v := 1) hx hb d_law_1286 ic_1 ?_
  refine lv_iadd hx hb d_law_1287 ?_
  refine l_sld hx hb hX hbl hbA hS ha1 d_law_1288 ?_
  obtain ⟨_, e104, h⟩ := ob h
  obtain ⟨x107, M105, e106, h⟩ := ob2 h
  refine k_cV C0 L_Law_167 (As := [.int a1]) (c_Mo_rate l G 174 a1 e106) ⟨rfl, rfl⟩ ⟨Nat.le_of_ble_eq_true rfl, Nat.le_of_ble_eq_true rfl⟩ hP hS (ck_of e104) ly_Mo rfl hl.1 rfl (Nat.le_of_ble_eq_true rfl) d_law_1289 ⟨hcs.1, hcs.2⟩ (fun H locs hP hS => ?_)
  refine lv_fstore (lv' := [(7, .float x107), (6, .int x101), (0, .ref b), (1, .ref (G.2.2 + 0)), (2, .ref (G.2.2 + 174)), (3, .ref (G.2.2 + 210)), (4, .ref (G.2.2 + 211)), (5, .int i)]) hx hb d_law_1292 hl (by decide) rfl (fun ls hl => ?_)
  refine lv_aload_n hx hb d_law_1294 rfl (lv_at hl 4 rfl) ?_
  obtain ⟨_, e108, h⟩ := ob h
  obtain ⟨x111, M109, e110, h⟩ := ob2 h
  refine k_cV C0 L_Law_102 (As := []) (c_Mo_thrown l G 174 e110) ⟨rfl, rfl⟩ ⟨Nat.le_of_ble_eq_true rfl, Nat.le_of_ble_eq_true rfl⟩ hP hS (ck_of e108) ly_Mo rfl hl.1 rfl (Nat.le_of_ble_eq_true rfl) d_law_1295 ⟨hcs.1, hcs.2⟩ (fun H locs hP hS => ?_)
  refine lv_iload hx hb d_law_1298 (lv_at hl 1 rfl) ?_
  refine lv_icmp_eq (tgt := 1305) hx hb d_law_1300 (by decide) (fun c112 => ?_) (fun c112 => ?_)
  · rw [if_pos c112] at h
    refine lv_iload hx hb d_law_1305 (lv_at hl 1 rfl) ?_
    refine lv_if_ne (tgt := 1343) hx hb d_law_1307 (by decide) (fun c113 => ?_) (fun c113 => ?_)
    · rw [if_neg c113] at h
      refine lv_goto (tgt := 1556) hx hb d_law_1343 (by decide) ?_
      cases h
      exact hk hP hS (lv_sub hl [2, 3, 4, 5, 6, 7] rfl)
    · rw [if_pos c113] at h
      refine lv_aload hx hb d_law_1310 (lv_at hl 6 rfl) ?_
      refine lv_iconst (v := 0) hx hb d_law_1312 ic_0 ?_
      obtain ⟨x114, e115, h⟩ := ob h
      refine k_ad C0 hP e115 d_law_1313 ?_
      refine lv_fload hx hb d_law_1314 (lv_at hl 0 rfl) ?_
      obtain ⟨_, e116, h⟩ := ob h
      refine lv_f2d hx hb d_law_1316 (nn64_of e116) ?_
      refine lv_dcmp hx hb d_law_1317 ?_
      refine lv_if_eq (tgt := 1343) hx hb d_law_1318 (by decide) (fun c117 => ?_) (fun c117 => ?_)
      · rw [if_pos c117] at h
        refine lv_goto (tgt := 1556) hx hb d_law_1343 (by decide) ?_
        cases h
        exact hk hP hS (lv_sub hl [2, 3, 4, 5, 6, 7] rfl)
      · rw [if_neg c117] at h
        refine lv_aload hx hb d_law_1321 (lv_at hl 6 rfl) ?_
        refine lv_iconst (v := 0) hx hb d_law_1323 ic_0 ?_
        obtain ⟨x118, e119, h⟩ := ob h
        refine k_ad C0 hP e119 d_law_1324 ?_
        refine lv_aload hx hb d_law_1325 (lv_at hl 6 rfl) ?_
        refine lv_iconst (v := 0) hx hb d_law_1327 ic_0 ?_
        obtain ⟨x120, e121, h⟩ := ob h
        refine k_ad C0 hP e121 d_law_1328 ?_
        refine lv_dcmp hx hb d_law_1329 ?_
        refine lv_if_eq (tgt := 1341) hx hb d_law_1330 (by decide) (fun c122 => ?_) (fun c122 => ?_)
        · rw [if_pos c122] at h
          refine lv_iconst (v := 0) hx hb d_law_1341 ic_0 ?_
          cases h
        · rw [if_neg c122] at h
          refine lv_fload hx hb d_law_1333 (lv_at hl 0 rfl) ?_
          refine lv_fload hx hb d_law_1335 (lv_at hl 0 rfl) ?_
          refine lv_fcmp hx hb d_law_1337 ?_
          refine lv_if_ne (tgt := 1343) hx hb d_law_1338 (by decide) (fun c123 => ?_) (fun c123 => ?_)
          · rw [if_neg c123] at h
            refine lv_goto (tgt := 1556) hx hb d_law_1343 (by decide) ?_
            cases h
            exact hk hP hS (lv_sub hl [2, 3, 4, 5, 6, 7] rfl)
          · rw [if_pos c123] at h
            refine lv_iconst (v := 0) hx hb d_law_1341 ic_0 ?_
            cases h
  · rw [if_neg c112] at h
    refine lv_iconst (v := 0) hx hb d_law_1303 ic_0 ?_
    cases h
def l_case19 (a1 : Int32) (M : fm_M) : Option fm_M :=
  bd (f_Law_share 0 a1 211 M) fun x101 M102 =>
  (ck 174 10).bind fun _ =>
  bd (f_Mo_share 174 a1 M102) fun x107 M105 =>
  (ck 174 10).bind fun _ =>
  bd (f_Mo_thrown 174 M105) fun x111 M109 =>
  if x111 = x101 then
    if x101 = 0 then
      (ad 211 0 M109).bind fun x114 =>
      (nn64 (FP.f2d x107)).bind fun _ =>
      if (Op.cmpValue (FP.dcmp x114 (FP.f2d x107)) .l) = 0 then
        some M109
      else
        (ad 211 0 M109).bind fun x118 =>
        (ad 211 0 M109).bind fun x120 =>
        if (Op.cmpValue (FP.dcmp x118 x120) .l) = 0 then
          none
        else
          if (Op.cmpValue (FP.fcmp x107 x107) .l) = 0 then
            none
          else
            some M109
    else
      some M109
  else
    none
set_option maxHeartbeats 4000000 in
set_option maxRecDepth 100000 in
theorem w_law_19 {p : Program} {l : Launch} {e : Env} {s : State} {m : MethodId} {below : List Frame} {meth : Method} {c : Code} {G : fm_G} {w0 : Cond} {b L : Nat} {xs : Nat → Int32} (C0 : fm_C p s m #[Value.ref b] meth c G w0 "AllocationProfilerLaw" code 9 (some .boolean)) (C1 : fx_S G s) (C2 : lx_S s) (hst : l.stackTraces = false) (hX : va_X b L xs s s.heap) (hbl : b < s.heap.size) (hbA : ¬ fm_A G.2.2 b) {cells slots : Nat} (hcs : cells + 1 ≤ 601024 ∧ slots + 6 ≤ 7293034) (i : Int32) (a1 : Int32) (ha1 : vp_in (i + 1) L ∧ xs (i + 1).toNatClampNeg = a1) {M M' : fm_M} {H : Heap} {locs : List Loc} (hP : kP G M H) (hS : kS G s H locs) {ls : Array Slot} (hl : lv_has ls 9 [(0, .ref b), (1, .ref (G.2.2 + 0)), (2, .ref (G.2.2 + 174)), (3, .ref (G.2.2 + 210)), (4, .ref (G.2.2 + 211)), (5, .int i)]) (h : l_case19 a1 M = some M')
    (hk : ∀ {H : Heap} {locs : List Loc}, kP G M' H → kS G s H locs → ∀ {ls : Array Slot}, lv_has ls 9 [(0, .ref b), (1, .ref (G.2.2 + 0)), (2, .ref (G.2.2 + 174)), (3, .ref (G.2.2 + 210)), (4, .ref (G.2.2 + 211)), (5, .int i)] → W p l e room_1 s m #[Value.ref b] below meth c H locs (cells + 1) (slots + 6) (lw_Z below #[Value.ref b] s) (F0 m 1556 ls [])) : W p l e room_1 s m #[Value.ref b] below meth c H locs cells slots (lw_Z below #[Value.ref b] s) (F0 m 1346 ls []) := by
  have hx := C0.1
  have hb := C0.2.1
  unfold l_case19 at h
  refine lv_aload_n hx hb d_law_1346 rfl (lv_at hl 1 rfl) ?_
  refine lv_aload_n hx hb d_law_1347 rfl (lv_at hl 0 rfl) ?_
  refine lv_iload hx hb d_law_1348 (lv_at hl 5 rfl) ?_
  refine lv_iconst (v := 1) hx hb d_law_1350 ic_1 ?_
  refine lv_iadd hx hb d_law_1351 ?_
  refine l_sld hx hb hX hbl hbA hS ha1 d_law_1352 ?_
  refine lv_aload hx hb d_law_1353 (lv_at hl 4 rfl) ?_
  obtain ⟨x101, M102, e103, h⟩ := ob2 h
  refine l_cS C0 C1 C2 L_Law_168 (As := [.ref (G.2.2 + 0), .int a1, .ref (G.2.2 + 211)]) (c_Law_share l hst G 0 a1 211 e103) ⟨Nat.le_of_ble_eq_true rfl, Nat.le_of_ble_eq_true rfl⟩ hP hS rfl hl.1 rfl (Nat.le_of_ble_eq_true rfl) d_law_1355 ⟨hcs.1, hcs.2⟩ (fun H locs hP hS => ?_)
  refine lv_istore (lv' := [(6, .int x101), (0, .ref b), (1, .ref (G.2.2 + 0)), (2, .ref (G.2.2 + 174)), (3, .ref (G.2.2 + 210)), (4, .ref (G.2.2 + 211)), (5, .int i)]) hx hb d_law_1358 hl (by decide) rfl (fun ls hl => ?_)
  refine lv_aload_n hx hb d_law_1360 rfl (lv_at hl 3 rfl) ?_
  refine lv_aload_n hx hb d_law_1361 rfl (lv_at hl 1 rfl) ?_
  refine lv_iload hx hb d_law_1362 (lv_at hl 6 rfl) ?_
  refine lv_iconst (v := 1) hx hb d_law_1364 ic_1 ?_
  refine lv_iadd hx hb d_law_1365 ?_
  refine l_sld hx hb hX hbl hbA hS ha1 d_law_1366 ?_
  obtain ⟨_, e104, h⟩ := ob h
  obtain ⟨x107, M105, e106, h⟩ := ob2 h
  refine k_cV C0 L_Law_170 (As := [.int a1]) (c_Mo_share l G 174 a1 e106) ⟨rfl, rfl⟩ ⟨Nat.le_of_ble_eq_true rfl, Nat.le_of_ble_eq_true rfl⟩ hP hS (ck_of e104) ly_Mo rfl hl.1 rfl (Nat.le_of_ble_eq_true rfl) d_law_1367 ⟨hcs.1, hcs.2⟩ (fun H locs hP hS => ?_)
  refine lv_fstore (lv' := [(7, .float x107), (6, .int x101), (0, .ref b), (1, .ref (G.2.2 + 0)), (2, .ref (G.2.2 + 174)), (3, .ref (G.2.2 + 210)), (4, .ref (G.2.2 + 211)), (5, .int i)]) hx hb d_law_1370 hl (by decide) rfl (fun ls hl => ?_)
  refine lv_aload_n hx hb d_law_1372 rfl (lv_at hl 4 rfl) ?_
  obtain ⟨_, e108, h⟩ := ob h
  obtain ⟨x111, M109, e110, h⟩ := ob2 h
  refine k_cV C0 L_Law_102 (As := []) (c_Mo_thrown l G 174 e110) ⟨rfl, rfl⟩ ⟨Nat.le_of_ble_eq_true rfl, Nat.le_of_ble_eq_true rfl⟩ hP hS (ck_of e108) ly_Mo rfl hl.1 rfl (Nat.le_of_ble_eq_true rfl) d_law_1373 ⟨hcs.1, hcs.2⟩ (fun H locs hP hS => ?_)
  refine lv_iload hx hb d_law_1376 (lv_at hl 1 rfl) ?_
  refine lv_icmp_eq (tgt := 1383) hx hb d_law_1378 (by decide) (fun c112 => ?_) (fun c112 => ?_)
  · rw [if_pos c112] at h
    refine lv_iload hx hb d_law_1383 (lv_at hl 1 rfl) ?_
    refine lv_if_ne (tgt := 1421) hx hb d_law_1385 (by decide) (fun c113 => ?_) (fun c113 => ?_)
    · rw [if_neg c113] at h
      refine lv_goto (tgt := 1556) hx hb d_law_1421 (by decide) ?_
      cases h
      exact hk hP hS (lv_sub hl [2, 3, 4, 5, 6, 7] rfl)
    · rw [if_pos c113] at h
      refine lv_aload hx hb d_law_1388 (lv_at hl 6 rfl) ?_
      refine lv_iconst (v := 0) hx hb d_law_1390 ic_0 ?_
      obtain ⟨x114, e115, h⟩ := ob h
      refine k_ad C0 hP e115 d_law_1391 ?_
      refine lv_fload hx hb d_law_1392 (lv_at hl 0 rfl) ?_
      obtain ⟨_, e116, h⟩ := ob h
      refine lv_f2d hx hb d_law_1394 (nn64_of e116) ?_
      refine lv_dcmp hx hb d_law_1395 ?_
      refine lv_if_eq (tgt := 1421) hx hb d_law_1396 (by decide) (fun c117 => ?_) (fun c117 => ?_)
      · rw [if_pos c117] at h
        refine lv_goto (tgt := 1556) hx hb d_law_1421 (by decide) ?_
        cases h
        exact hk hP hS (lv_sub hl [2, 3, 4, 5, 6, 7] rfl)
      · rw [if_neg c117] at h
        refine lv_aload hx hb d_law_1399 (lv_at hl 6 rfl) ?_
        refine lv_iconst (v := 0) hx hb d_law_1401 ic_0 ?_
        obtain ⟨x118, e119, h⟩ := ob h
        refine k_ad C0 hP e119 d_law_1402 ?_
        refine lv_aload hx hb d_law_1403 (lv_at hl 6 rfl) ?_
        refine lv_iconst (v := 0) hx hb d_law_1405 ic_0 ?_
        obtain ⟨x120, e121, h⟩ := ob h
        refine k_ad C0 hP e121 d_law_1406 ?_
        refine lv_dcmp hx hb d_law_1407 ?_
        refine lv_if_eq (tgt := 1419) hx hb d_law_1408 (by decide) (fun c122 => ?_) (fun c122 => ?_)
        · rw [if_pos c122] at h
          refine lv_iconst (v := 0) hx hb d_law_1419 ic_0 ?_
          cases h
        · rw [if_neg c122] at h
          refine lv_fload hx hb d_law_1411 (lv_at hl 0 rfl) ?_
          refine lv_fload hx hb d_law_1413 (lv_at hl 0 rfl) ?_
          refine lv_fcmp hx hb d_law_1415 ?_
          refine lv_if_ne (tgt := 1421) hx hb d_law_1416 (by decide) (fun c123 => ?_) (fun c123 => ?_)
          · rw [if_neg c123] at h
            refine lv_goto (tgt := 1556) hx hb d_law_1421 (by decide) ?_
            cases h
            exact hk hP hS (lv_sub hl [2, 3, 4, 5, 6, 7] rfl)
          · rw [if_pos c123] at h
            refine lv_iconst (v := 0) hx hb d_law_1419 ic_0 ?_
            cases h
  · rw [if_neg c112] at h
    refine lv_iconst (v := 0) hx hb d_law_1381 ic_0 ?_
    cases h
def l_case20 (a1 : Int32) (M : fm_M) : Option fm_M :=
  bd (f_Law_estimate 0 a1 211 M) fun x101 M102 =>
  (ck 174 10).bind fun _ =>
  bd (f_Mo_estimate 174 a1 M102) fun x107 M105 =>
  (ck 174 10).bind fun _ =>
  bd (f_Mo_thrown 174 M105) fun x111 M109 =>
  if x111 = x101 then
    if x101 = 0 then
      (ad 211 0 M109).bind fun x114 =>
      if (Op.cmpValue (FP.dcmp x114 x107) .l) = 0 then
        some M109
      else
        (ad 211 0 M109).bind fun x117 =>
        (ad 211 0 M109).bind fun x119 =>
        if (Op.cmpValue (FP.dcmp x117 x119) .l) = 0 then
          none
        else
          if (Op.cmpValue (FP.dcmp x107 x107) .l) = 0 then
            none
          else
            some M109
    else
      some M109
  else
    none
set_option maxHeartbeats 4000000 in
set_option maxRecDepth 100000 in
theorem w_law_20 {p : Program} {l : Launch} {e : Env} {s : State} {m : MethodId} {below : List Frame} {meth : Method} {c : Code} {G : fm_G} {w0 : Cond} {b L : Nat} {xs : Nat → Int32} (C0 : fm_C p s m #[Value.ref b] meth c G w0 "AllocationProfilerLaw" code 9 (some .boolean)) (C1 : fx_S G s) (C2 : lx_S s) (hst : l.stackTraces = false) (hX : va_X b L xs s s.heap) (hbl : b < s.heap.size) (hbA : ¬ fm_A G.2.2 b) {cells slots : Nat} (hcs : cells + 1 ≤ 601024 ∧ slots + 6 ≤ 7293034) (i : Int32) (a1 : Int32) (ha1 : vp_in (i + 1) L ∧ xs (i + 1).toNatClampNeg = a1) {M M' : fm_M} {H : Heap} {locs : List Loc} (hP : kP G M H) (hS : kS G s H locs) {ls : Array Slot} (hl : lv_has ls 9 [(0, .ref b), (1, .ref (G.2.2 + 0)), (2, .ref (G.2.2 + 174)), (3, .ref (G.2.2 + 210)), (4, .ref (G.2.2 + 211)), (5, .int i)]) (h : l_case20 a1 M = some M')
    (hk : ∀ {H : Heap} {locs : List Loc}, kP G M' H → kS G s H locs → ∀ {ls : Array Slot}, lv_has ls 9 [(0, .ref b), (1, .ref (G.2.2 + 0)), (2, .ref (G.2.2 + 174)), (3, .ref (G.2.2 + 210)), (4, .ref (G.2.2 + 211)), (5, .int i)] → W p l e room_1 s m #[Value.ref b] below meth c H locs (cells + 1) (slots + 6) (lw_Z below #[Value.ref b] s) (F0 m 1556 ls [])) : W p l e room_1 s m #[Value.ref b] below meth c H locs cells slots (lw_Z below #[Value.ref b] s) (F0 m 1424 ls []) := by
  have hx := C0.1
  have hb := C0.2.1
  unfold l_case20 at h
  refine lv_aload_n hx hb d_law_1424 rfl (lv_at hl 1 rfl) ?_
  refine lv_aload_n hx hb d_law_1425 rfl (lv_at hl 0 rfl) ?_
  refine lv_iload hx hb d_law_1426 (lv_at hl 5 rfl) ?_
  refine lv_iconst (v := 1) hx hb d_law_1428 ic_1 ?_
  refine lv_iadd hx hb d_law_1429 ?_
  refine l_sld hx hb hX hbl hbA hS ha1 d_law_1430 ?_
  refine lv_aload hx hb d_law_1431 (lv_at hl 4 rfl) ?_
  obtain ⟨x101, M102, e103, h⟩ := ob2 h
  refine l_cS C0 C1 C2 L_Law_171 (As := [.ref (G.2.2 + 0), .int a1, .ref (G.2.2 + 211)]) (c_Law_estimate l hst G 0 a1 211 e103) ⟨Nat.le_of_ble_eq_true rfl, Nat.le_of_ble_eq_true rfl⟩ hP hS rfl hl.1 rfl (Nat.le_of_ble_eq_true rfl) d_law_1433 ⟨hcs.1, hcs.2⟩ (fun H locs hP hS => ?_)
  refine lv_istore (lv' := [(6, .int x101), (0, .ref b), (1, .ref (G.2.2 + 0)), (2, .ref (G.2.2 + 174)), (3, .ref (G.2.2 + 210)), (4, .ref (G.2.2 + 211)), (5, .int i)]) hx hb d_law_1436 hl (by decide) rfl (fun ls hl => ?_)
  refine lv_aload_n hx hb d_law_1438 rfl (lv_at hl 3 rfl) ?_
  refine lv_aload_n hx hb d_law_1439 rfl (lv_at hl 1 rfl) ?_
  refine lv_iload hx hb d_law_1440 (lv_at hl 6 rfl) ?_
  refine lv_iconst (v := 1) hx hb d_law_1442 ic_1 ?_
  refine lv_iadd hx hb d_law_1443 ?_
  refine l_sld hx hb hX hbl hbA hS ha1 d_law_1444 ?_
  obtain ⟨_, e104, h⟩ := ob h
  obtain ⟨x107, M105, e106, h⟩ := ob2 h
  refine k_cV C0 L_Law_173 (As := [.int a1]) (c_Mo_estimate l G 174 a1 e106) ⟨rfl, rfl⟩ ⟨Nat.le_of_ble_eq_true rfl, Nat.le_of_ble_eq_true rfl⟩ hP hS (ck_of e104) ly_Mo rfl hl.1 rfl (Nat.le_of_ble_eq_true rfl) d_law_1445 ⟨hcs.1, hcs.2⟩ (fun H locs hP hS => ?_)
  refine lv_dstore (lv' := [(7, .double x107), (6, .int x101), (0, .ref b), (1, .ref (G.2.2 + 0)), (2, .ref (G.2.2 + 174)), (3, .ref (G.2.2 + 210)), (4, .ref (G.2.2 + 211)), (5, .int i)]) hx hb d_law_1448 hl (by decide) rfl (fun ls hl => ?_)
  refine lv_aload_n hx hb d_law_1450 rfl (lv_at hl 4 rfl) ?_
  obtain ⟨_, e108, h⟩ := ob h
  obtain ⟨x111, M109, e110, h⟩ := ob2 h
  refine k_cV C0 L_Law_102 (As := []) (c_Mo_thrown l G 174 e110) ⟨rfl, rfl⟩ ⟨Nat.le_of_ble_eq_true rfl, Nat.le_of_ble_eq_true rfl⟩ hP hS (ck_of e108) ly_Mo rfl hl.1 rfl (Nat.le_of_ble_eq_true rfl) d_law_1451 ⟨hcs.1, hcs.2⟩ (fun H locs hP hS => ?_)
  refine lv_iload hx hb d_law_1454 (lv_at hl 1 rfl) ?_
  refine lv_icmp_eq (tgt := 1461) hx hb d_law_1456 (by decide) (fun c112 => ?_) (fun c112 => ?_)
  · rw [if_pos c112] at h
    refine lv_iload hx hb d_law_1461 (lv_at hl 1 rfl) ?_
    refine lv_if_ne (tgt := 1498) hx hb d_law_1463 (by decide) (fun c113 => ?_) (fun c113 => ?_)
    · rw [if_neg c113] at h
      refine lv_goto (tgt := 1556) hx hb d_law_1498 (by decide) ?_
      cases h
      exact hk hP hS (lv_sub hl [2, 3, 4, 5, 6, 7] rfl)
    · rw [if_pos c113] at h
      refine lv_aload hx hb d_law_1466 (lv_at hl 6 rfl) ?_
      refine lv_iconst (v := 0) hx hb d_law_1468 ic_0 ?_
      obtain ⟨x114, e115, h⟩ := ob h
      refine k_ad C0 hP e115 d_law_1469 ?_
      refine lv_dload hx hb d_law_1470 (lv_at hl 0 rfl) ?_
      refine lv_dcmp hx hb d_law_1472 ?_
      refine lv_if_eq (tgt := 1498) hx hb d_law_1473 (by decide) (fun c116 => ?_) (fun c116 => ?_)
      · rw [if_pos c116] at h
        refine lv_goto (tgt := 1556) hx hb d_law_1498 (by decide) ?_
        cases h
        exact hk hP hS (lv_sub hl [2, 3, 4, 5, 6, 7] rfl)
      · rw [if_neg c116] at h
        refine lv_aload hx hb d_law_1476 (lv_at hl 6 rfl) ?_
        refine lv_iconst (v := 0) hx hb d_law_1478 ic_0 ?_
        obtain ⟨x117, e118, h⟩ := ob h
        refine k_ad C0 hP e118 d_law_1479 ?_
        refine lv_aload hx hb d_law_1480 (lv_at hl 6 rfl) ?_
        refine lv_iconst (v := 0) hx hb d_law_1482 ic_0 ?_
        obtain ⟨x119, e120, h⟩ := ob h
        refine k_ad C0 hP e120 d_law_1483 ?_
        refine lv_dcmp hx hb d_law_1484 ?_
        refine lv_if_eq (tgt := 1496) hx hb d_law_1485 (by decide) (fun c121 => ?_) (fun c121 => ?_)
        · rw [if_pos c121] at h
          refine lv_iconst (v := 0) hx hb d_law_1496 ic_0 ?_
          cases h
        · rw [if_neg c121] at h
          refine lv_dload hx hb d_law_1488 (lv_at hl 0 rfl) ?_
          refine lv_dload hx hb d_law_1490 (lv_at hl 0 rfl) ?_
          refine lv_dcmp hx hb d_law_1492 ?_
          refine lv_if_ne (tgt := 1498) hx hb d_law_1493 (by decide) (fun c122 => ?_) (fun c122 => ?_)
          · rw [if_neg c122] at h
            refine lv_goto (tgt := 1556) hx hb d_law_1498 (by decide) ?_
            cases h
            exact hk hP hS (lv_sub hl [2, 3, 4, 5, 6, 7] rfl)
          · rw [if_pos c122] at h
            refine lv_iconst (v := 0) hx hb d_law_1496 ic_0 ?_
            cases h
  · rw [if_neg c112] at h
    refine lv_iconst (v := 0) hx hb d_law_1459 ic_0 ?_
    cases h
def l_case21 (a1 : Int32) (M : fm_M) : Option fm_M :=
  bd (f_Law_rounded 0 a1 210 M) fun x101 M102 =>
  (ck 174 10).bind fun _ =>
  bd (f_Mo_rounded 174 a1 M102) fun x107 M105 =>
  (ck 174 10).bind fun _ =>
  bd (f_Mo_thrown 174 M105) fun x111 M109 =>
  if x111 = x101 then
    if x101 = 0 then
      (aj 210 0 M109).bind fun x114 =>
      if (lg_cmp x114 x107) = 0 then
        some M109
      else
        none
    else
      some M109
  else
    none
set_option maxHeartbeats 4000000 in
set_option maxRecDepth 100000 in
theorem w_law_21 {p : Program} {l : Launch} {e : Env} {s : State} {m : MethodId} {below : List Frame} {meth : Method} {c : Code} {G : fm_G} {w0 : Cond} {b L : Nat} {xs : Nat → Int32} (C0 : fm_C p s m #[Value.ref b] meth c G w0 "AllocationProfilerLaw" code 9 (some .boolean)) (C1 : fx_S G s) (C2 : lx_S s) (hst : l.stackTraces = false) (hX : va_X b L xs s s.heap) (hbl : b < s.heap.size) (hbA : ¬ fm_A G.2.2 b) {cells slots : Nat} (hcs : cells + 1 ≤ 601024 ∧ slots + 6 ≤ 7293034) (i : Int32) (a1 : Int32) (ha1 : vp_in (i + 1) L ∧ xs (i + 1).toNatClampNeg = a1) {M M' : fm_M} {H : Heap} {locs : List Loc} (hP : kP G M H) (hS : kS G s H locs) {ls : Array Slot} (hl : lv_has ls 9 [(0, .ref b), (1, .ref (G.2.2 + 0)), (2, .ref (G.2.2 + 174)), (3, .ref (G.2.2 + 210)), (4, .ref (G.2.2 + 211)), (5, .int i)]) (h : l_case21 a1 M = some M')
    (hk : ∀ {H : Heap} {locs : List Loc}, kP G M' H → kS G s H locs → ∀ {ls : Array Slot}, lv_has ls 9 [(0, .ref b), (1, .ref (G.2.2 + 0)), (2, .ref (G.2.2 + 174)), (3, .ref (G.2.2 + 210)), (4, .ref (G.2.2 + 211)), (5, .int i)] → W p l e room_1 s m #[Value.ref b] below meth c H locs (cells + 1) (slots + 6) (lw_Z below #[Value.ref b] s) (F0 m 1556 ls [])) : W p l e room_1 s m #[Value.ref b] below meth c H locs cells slots (lw_Z below #[Value.ref b] s) (F0 m 1501 ls []) := by
  have hx := C0.1
  have hb := C0.2.1
  unfold l_case21 at h
  refine lv_aload_n hx hb d_law_1501 rfl (lv_at hl 1 rfl) ?_
  refine lv_aload_n hx hb d_law_1502 rfl (lv_at hl 0 rfl) ?_
  refine lv_iload hx hb d_law_1503 (lv_at hl 5 rfl) ?_
  refine lv_iconst (v := 1) hx hb d_law_1505 ic_1 ?_
  refine lv_iadd hx hb d_law_1506 ?_
  refine l_sld hx hb hX hbl hbA hS ha1 d_law_1507 ?_
  refine lv_aload_n hx hb d_law_1508 rfl (lv_at hl 3 rfl) ?_
  obtain ⟨x101, M102, e103, h⟩ := ob2 h
  refine l_cS C0 C1 C2 L_Law_174 (As := [.ref (G.2.2 + 0), .int a1, .ref (G.2.2 + 210)]) (c_Law_rounded l hst G 0 a1 210 e103) ⟨Nat.le_of_ble_eq_true rfl, Nat.le_of_ble_eq_true rfl⟩ hP hS rfl hl.1 rfl (Nat.le_of_ble_eq_true rfl) d_law_1509 ⟨hcs.1, hcs.2⟩ (fun H locs hP hS => ?_)
  refine lv_istore (lv' := [(6, .int x101), (0, .ref b), (1, .ref (G.2.2 + 0)), (2, .ref (G.2.2 + 174)), (3, .ref (G.2.2 + 210)), (4, .ref (G.2.2 + 211)), (5, .int i)]) hx hb d_law_1512 hl (by decide) rfl (fun ls hl => ?_)
  refine lv_aload_n hx hb d_law_1514 rfl (lv_at hl 3 rfl) ?_
  refine lv_aload_n hx hb d_law_1515 rfl (lv_at hl 1 rfl) ?_
  refine lv_iload hx hb d_law_1516 (lv_at hl 6 rfl) ?_
  refine lv_iconst (v := 1) hx hb d_law_1518 ic_1 ?_
  refine lv_iadd hx hb d_law_1519 ?_
  refine l_sld hx hb hX hbl hbA hS ha1 d_law_1520 ?_
  obtain ⟨_, e104, h⟩ := ob h
  obtain ⟨x107, M105, e106, h⟩ := ob2 h
  refine k_cV C0 L_Law_176 (As := [.int a1]) (c_Mo_rounded l G 174 a1 e106) ⟨rfl, rfl⟩ ⟨Nat.le_of_ble_eq_true rfl, Nat.le_of_ble_eq_true rfl⟩ hP hS (ck_of e104) ly_Mo rfl hl.1 rfl (Nat.le_of_ble_eq_true rfl) d_law_1521 ⟨hcs.1, hcs.2⟩ (fun H locs hP hS => ?_)
  refine lv_lstore (lv' := [(7, .long x107), (6, .int x101), (0, .ref b), (1, .ref (G.2.2 + 0)), (2, .ref (G.2.2 + 174)), (3, .ref (G.2.2 + 210)), (4, .ref (G.2.2 + 211)), (5, .int i)]) hx hb d_law_1524 hl (by decide) rfl (fun ls hl => ?_)
  refine lv_aload_n hx hb d_law_1526 rfl (lv_at hl 4 rfl) ?_
  obtain ⟨_, e108, h⟩ := ob h
  obtain ⟨x111, M109, e110, h⟩ := ob2 h
  refine k_cV C0 L_Law_102 (As := []) (c_Mo_thrown l G 174 e110) ⟨rfl, rfl⟩ ⟨Nat.le_of_ble_eq_true rfl, Nat.le_of_ble_eq_true rfl⟩ hP hS (ck_of e108) ly_Mo rfl hl.1 rfl (Nat.le_of_ble_eq_true rfl) d_law_1527 ⟨hcs.1, hcs.2⟩ (fun H locs hP hS => ?_)
  refine lv_iload hx hb d_law_1530 (lv_at hl 1 rfl) ?_
  refine lv_icmp_eq (tgt := 1537) hx hb d_law_1532 (by decide) (fun c112 => ?_) (fun c112 => ?_)
  · rw [if_pos c112] at h
    refine lv_iload hx hb d_law_1537 (lv_at hl 1 rfl) ?_
    refine lv_if_ne (tgt := 1553) hx hb d_law_1539 (by decide) (fun c113 => ?_) (fun c113 => ?_)
    · rw [if_neg c113] at h
      refine lv_goto (tgt := 1556) hx hb d_law_1553 (by decide) ?_
      cases h
      exact hk hP hS (lv_sub hl [2, 3, 4, 5, 6, 7] rfl)
    · rw [if_pos c113] at h
      refine lv_aload_n hx hb d_law_1542 rfl (lv_at hl 5 rfl) ?_
      refine lv_iconst (v := 0) hx hb d_law_1543 ic_0 ?_
      obtain ⟨x114, e115, h⟩ := ob h
      refine k_aj C0 hP e115 d_law_1544 ?_
      refine lv_lload hx hb d_law_1545 (lv_at hl 0 rfl) ?_
      refine W.lcmp hx hb d_law_1547 ?_
      refine lv_if_eq (tgt := 1553) hx hb d_law_1548 (by decide) (fun c116 => ?_) (fun c116 => ?_)
      · rw [if_pos c116] at h
        refine lv_goto (tgt := 1556) hx hb d_law_1553 (by decide) ?_
        cases h
        exact hk hP hS (lv_sub hl [2, 3, 4, 5, 6, 7] rfl)
      · rw [if_neg c116] at h
        refine lv_iconst (v := 0) hx hb d_law_1551 ic_0 ?_
        cases h
  · rw [if_neg c112] at h
    refine lv_iconst (v := 0) hx hb d_law_1535 ic_0 ?_
    cases h
