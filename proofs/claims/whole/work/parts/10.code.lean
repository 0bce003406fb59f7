/-! java/lang/Integer.bitCount -/
def rm_Integer_bitCount : Room := { frames := 0, cells := 0, slots := 0, locals := 0 }
theorem d_Integer_bitCount_0 : decode b_Integer_bitCount 0 = .ok (.iload_n 0, 1) := by decide +kernel
theorem d_Integer_bitCount_1 : decode b_Integer_bitCount 1 = .ok (.iload_n 0, 1) := by decide +kernel
theorem d_Integer_bitCount_2 : decode b_Integer_bitCount 2 = .ok (.iconst 1, 1) := by decide +kernel
theorem d_Integer_bitCount_3 : decode b_Integer_bitCount 3 = .ok (.iushr, 1) := by decide +kernel
theorem d_Integer_bitCount_4 : decode b_Integer_bitCount 4 = .ok (.ldc_w 265, 3) := by decide +kernel
theorem d_Integer_bitCount_7 : decode b_Integer_bitCount 7 = .ok (.iand, 1) := by decide +kernel
theorem d_Integer_bitCount_8 : decode b_Integer_bitCount 8 = .ok (.isub, 1) := by decide +kernel
theorem d_Integer_bitCount_9 : decode b_Integer_bitCount 9 = .ok (.istore_n 0, 1) := by decide +kernel
theorem d_Integer_bitCount_10 : decode b_Integer_bitCount 10 = .ok (.iload_n 0, 1) := by decide +kernel
theorem d_Integer_bitCount_11 : decode b_Integer_bitCount 11 = .ok (.ldc_w 266, 3) := by decide +kernel
theorem d_Integer_bitCount_14 : decode b_Integer_bitCount 14 = .ok (.iand, 1) := by decide +kernel
theorem d_Integer_bitCount_15 : decode b_Integer_bitCount 15 = .ok (.iload_n 0, 1) := by decide +kernel
theorem d_Integer_bitCount_16 : decode b_Integer_bitCount 16 = .ok (.iconst 2, 1) := by decide +kernel
theorem d_Integer_bitCount_17 : decode b_Integer_bitCount 17 = .ok (.iushr, 1) := by decide +kernel
theorem d_Integer_bitCount_18 : decode b_Integer_bitCount 18 = .ok (.ldc_w 266, 3) := by decide +kernel
theorem d_Integer_bitCount_21 : decode b_Integer_bitCount 21 = .ok (.iand, 1) := by decide +kernel
theorem d_Integer_bitCount_22 : decode b_Integer_bitCount 22 = .ok (.iadd, 1) := by decide +kernel
theorem d_Integer_bitCount_23 : decode b_Integer_bitCount 23 = .ok (.istore_n 0, 1) := by decide +kernel
theorem d_Integer_bitCount_24 : decode b_Integer_bitCount 24 = .ok (.iload_n 0, 1) := by decide +kernel
theorem d_Integer_bitCount_25 : decode b_Integer_bitCount 25 = .ok (.iload_n 0, 1) := by decide +kernel
theorem d_Integer_bitCount_26 : decode b_Integer_bitCount 26 = .ok (.iconst 4, 1) := by decide +kernel
theorem d_Integer_bitCount_27 : decode b_Integer_bitCount 27 = .ok (.iushr, 1) := by decide +kernel
theorem d_Integer_bitCount_28 : decode b_Integer_bitCount 28 = .ok (.iadd, 1) := by decide +kernel
theorem d_Integer_bitCount_29 : decode b_Integer_bitCount 29 = .ok (.ldc_w 267, 3) := by decide +kernel
theorem d_Integer_bitCount_32 : decode b_Integer_bitCount 32 = .ok (.iand, 1) := by decide +kernel
theorem d_Integer_bitCount_33 : decode b_Integer_bitCount 33 = .ok (.istore_n 0, 1) := by decide +kernel
theorem d_Integer_bitCount_34 : decode b_Integer_bitCount 34 = .ok (.iload_n 0, 1) := by decide +kernel
theorem d_Integer_bitCount_35 : decode b_Integer_bitCount 35 = .ok (.iload_n 0, 1) := by decide +kernel
theorem d_Integer_bitCount_36 : decode b_Integer_bitCount 36 = .ok (.bipush 8, 2) := by decide +kernel
theorem d_Integer_bitCount_38 : decode b_Integer_bitCount 38 = .ok (.iushr, 1) := by decide +kernel
theorem d_Integer_bitCount_39 : decode b_Integer_bitCount 39 = .ok (.iadd, 1) := by decide +kernel
theorem d_Integer_bitCount_40 : decode b_Integer_bitCount 40 = .ok (.istore_n 0, 1) := by decide +kernel
theorem d_Integer_bitCount_41 : decode b_Integer_bitCount 41 = .ok (.iload_n 0, 1) := by decide +kernel
theorem d_Integer_bitCount_42 : decode b_Integer_bitCount 42 = .ok (.iload_n 0, 1) := by decide +kernel
theorem d_Integer_bitCount_43 : decode b_Integer_bitCount 43 = .ok (.bipush 16, 2) := by decide +kernel
theorem d_Integer_bitCount_45 : decode b_Integer_bitCount 45 = .ok (.iushr, 1) := by decide +kernel
theorem d_Integer_bitCount_46 : decode b_Integer_bitCount 46 = .ok (.iadd, 1) := by decide +kernel
theorem d_Integer_bitCount_47 : decode b_Integer_bitCount 47 = .ok (.istore_n 0, 1) := by decide +kernel
theorem d_Integer_bitCount_48 : decode b_Integer_bitCount 48 = .ok (.iload_n 0, 1) := by decide +kernel
theorem d_Integer_bitCount_49 : decode b_Integer_bitCount 49 = .ok (.bipush 63, 2) := by decide +kernel
theorem d_Integer_bitCount_51 : decode b_Integer_bitCount 51 = .ok (.iand, 1) := by decide +kernel
theorem d_Integer_bitCount_52 : decode b_Integer_bitCount 52 = .ok (.ireturn, 1) := by decide +kernel
def f_Integer_bitCount (x0 : Int32) (M : fm_M) : Option (Int32 × fm_M) :=
  some (((((((((x0 - ((x0.toUInt32 >>> ((1 : Int32).toUInt32 &&& Int32.toUInt32 31)).toInt32 &&& 1431655765)) &&& 858993459) + (((x0 - ((x0.toUInt32 >>> ((1 : Int32).toUInt32 &&& Int32.toUInt32 31)).toInt32 &&& 1431655765)).toUInt32 >>> ((2 : Int32).toUInt32 &&& Int32.toUInt32 31)).toInt32 &&& 858993459)) + ((((x0 - ((x0.toUInt32 >>> ((1 : Int32).toUInt32 &&& Int32.toUInt32 31)).toInt32 &&& 1431655765)) &&& 858993459) + (((x0 - ((x0.toUInt32 >>> ((1 : Int32).toUInt32 &&& Int32.toUInt32 31)).toInt32 &&& 1431655765)).toUInt32 >>> ((2 : Int32).toUInt32 &&& Int32.toUInt32 31)).toInt32 &&& 858993459)).toUInt32 >>> ((4 : Int32).toUInt32 &&& Int32.toUInt32 31)).toInt32) &&& 252645135) + ((((((x0 - ((x0.toUInt32 >>> ((1 : Int32).toUInt32 &&& Int32.toUInt32 31)).toInt32 &&& 1431655765)) &&& 858993459) + (((x0 - ((x0.toUInt32 >>> ((1 : Int32).toUInt32 &&& Int32.toUInt32 31)).toInt32 &&& 1431655765)).toUInt32 >>> ((2 : Int32).toUInt32 &&& Int32.toUInt32 31)).toInt32 &&& 858993459)) + ((((x0 - ((x0.toUInt32 >>> ((1 : Int32).toUInt32 &&& Int32.toUInt32 31)).toInt32 &&& 1431655765)) &&& 858993459) + (((x0 - ((x0.toUInt32 >>> ((1 : Int32).toUInt32 &&& Int32.toUInt32 31)).toInt32 &&& 1431655765)).toUInt32 >>> ((2 : Int32).toUInt32 &&& Int32.toUInt32 31)).toInt32 &&& 858993459)).toUInt32 >>> ((4 : Int32).toUInt32 &&& Int32.toUInt32 31)).toInt32) &&& 252645135).toUInt32 >>> ((8 : Int32).toUInt32 &&& Int32.toUInt32 31)).toInt32) + (((((((x0 - ((x0.toUInt32 >>> ((1 : Int32).toUInt32 &&& Int32.toUInt32 31)).toInt32 &&& 1431655765)) &&& 858993459) + (((x0 - ((x0.toUInt32 >>> ((1 : Int32).toUInt32 &&& Int32.toUInt32 31)).toInt32 &&& 1431655765)).toUInt32 >>> ((2 : Int32).toUInt32 &&& Int32.toUInt32 31)).toInt32 &&& 858993459)) + ((((x0 - ((x0.toUInt32 >>> ((1 : Int32).toUInt32 &&& Int32.toUInt32 31)).toInt32 &&& 1431655765)) &&& 858993459) + (((x0 - ((x0.toUInt32 >>> ((1 : Int32).toUInt32 &&& Int32.toUInt32 31)).toInt32 &&& 1431655765)).toUInt32 >>> ((2 : Int32).toUInt32 &&& Int32.toUInt32 31)).toInt32 &&& 858993459)).toUInt32 >>> ((4 : Int32).toUInt32 &&& Int32.toUInt32 31)).toInt32) &&& 252645135) + ((((((x0 - ((x0.toUInt32 >>> ((1 : Int32).toUInt32 &&& Int32.toUInt32 31)).toInt32 &&& 1431655765)) &&& 858993459) + (((x0 - ((x0.toUInt32 >>> ((1 : Int32).toUInt32 &&& Int32.toUInt32 31)).toInt32 &&& 1431655765)).toUInt32 >>> ((2 : Int32).toUInt32 &&& Int32.toUInt32 31)).toInt32 &&& 858993459)) + ((((x0 - ((x0.toUInt32 >>> ((1 : Int32).toUInt32 &&& Int32.toUInt32 31)).toInt32 &&& 1431655765)) &&& 858993459) + (((x0 - ((x0.toUInt32 >>> ((1 : Int32).toUInt32 &&& Int32.toUInt32 31)).toInt32 &&& 1431655765)).toUInt32 >>> ((2 : Int32).toUInt32 &&& Int32.toUInt32 31)).toInt32 &&& 858993459)).toUInt32 >>> ((4 : Int32).toUInt32 &&& Int32.toUInt32 31)).toInt32) &&& 252645135).toUInt32 >>> ((8 : Int32).toUInt32 &&& Int32.toUInt32 31)).toInt32).toUInt32 >>> ((16 : Int32).toUInt32 &&& Int32.toUInt32 31)).toInt32) &&& 63), M)
set_option maxHeartbeats 4000000 in
set_option maxRecDepth 100000 in
theorem c_Integer_bitCount (l : Launch) (G : fm_G) (x0 : Int32) {v : Int32} {M M' : fm_M} (h : f_Integer_bitCount x0 M = some (v, M')) : kMet l y_Integer_bitCount b_Integer_bitCount 1 (some .int) rm_Integer_bitCount G M [.int x0] (some (.int v)) M' := by
  refine r_met (by decide) rfl (Nat.le_of_ble_eq_true rfl) (fun p e s m args below meth c C0 hP ls hl => ?_)
  have hx := C0.1
  have hb := C0.2.1
  have hown := C0.2.2.2.2.1
  have hts := C0.2.2.2.2.2.1
  have hl : lv_has ls 1 [(0, .int x0)] := hl
  have hS : va_S (fm_A G.2.2) s.heap s.heap [] := va_S.rf
  unfold f_Integer_bitCount at h
  refine lv_iload_n hx hb d_Integer_bitCount_0 rfl (lv_at hl 0 rfl) ?_
  refine lv_iload_n hx hb d_Integer_bitCount_1 rfl (lv_at hl 0 rfl) ?_
  refine lv_iconst (v := 1) hx hb d_Integer_bitCount_2 ic_1 ?_
  refine lv_iushr hx hb d_Integer_bitCount_3 rfl ?_
  refine lv_ldcw (v := 1431655765) hx hb hown (hts _ (List.mem_cons_of_mem _ (gT_in 568 (by decide +kernel) rfl))) d_Integer_bitCount_4 ?_
  refine lv_iand hx hb d_Integer_bitCount_7 ?_
  refine lv_isub hx hb d_Integer_bitCount_8 ?_
  refine lv_istore_n (lv' := [(0, .int (x0 - ((x0.toUInt32 >>> ((1 : Int32).toUInt32 &&& Int32.toUInt32 31)).toInt32 &&& 1431655765)))]) hx hb d_Integer_bitCount_9 rfl hl (by decide) rfl (fun ls hl => ?_)
  refine lv_iload_n hx hb d_Integer_bitCount_10 rfl (lv_at hl 0 rfl) ?_
  refine lv_ldcw (v := 858993459) hx hb hown (hts _ (List.mem_cons_of_mem _ (gT_in 569 (by decide +kernel) rfl))) d_Integer_bitCount_11 ?_
  refine lv_iand hx hb d_Integer_bitCount_14 ?_
  refine lv_iload_n hx hb d_Integer_bitCount_15 rfl (lv_at hl 0 rfl) ?_
  refine lv_iconst (v := 2) hx hb d_Integer_bitCount_16 ic_2 ?_
  refine lv_iushr hx hb d_Integer_bitCount_17 rfl ?_
  refine lv_ldcw (v := 858993459) hx hb hown (hts _ (List.mem_cons_of_mem _ (gT_in 569 (by decide +kernel) rfl))) d_Integer_bitCount_18 ?_
  refine lv_iand hx hb d_Integer_bitCount_21 ?_
  refine lv_iadd hx hb d_Integer_bitCount_22 ?_
  refine lv_istore_n (lv' := [(0, .int (((x0 - ((x0.toUInt32 >>> ((1 : Int32).toUInt32 &&& Int32.toUInt32 31)).toInt32 &&& 1431655765)) &&& 858993459) + (((x0 - ((x0.toUInt32 >>> ((1 : Int32).toUInt32 &&& Int32.toUInt32 31)).toInt32 &&& 1431655765)).toUInt32 >>> ((2 : Int32).toUInt32 &&& Int32.toUInt32 31)).toInt32 &&& 858993459)))]) hx hb d_Integer_bitCount_23 rfl hl (by decide) rfl (fun ls hl => ?_)
  refine lv_iload_n hx hb d_Integer_bitCount_24 rfl (lv_at hl 0 rfl) ?_
  refine lv_iload_n hx hb d_Integer_bitCount_25 rfl (lv_at hl 0 rfl) ?_
  refine lv_iconst (v := 4) hx hb d_Integer_bitCount_26 ic_4 ?_
  refine lv_iushr hx hb d_Integer_bitCount_27 rfl ?_
  refine lv_iadd hx hb d_Integer_bitCount_28 ?_
  refine lv_ldcw (v := 252645135) hx hb hown (hts _ (List.mem_cons_of_mem _ (gT_in 570 (by decide +kernel) rfl))) d_Integer_bitCount_29 ?_
  refine lv_iand hx hb d_Integer_bitCount_32 ?_
  refine lv_istore_n (lv' := [(0, .int (((((x0 - ((x0.toUInt32 >>> ((1 : Int32).toUInt32 &&& Int32.toUInt32 31)).toInt32 &&& 1431655765)) &&& 858993459) + (((x0 - ((x0.toUInt32 >>> ((1 : Int32).toUInt32 &&& Int32.toUInt32 31)).toInt32 &&& 1431655765)).toUInt32 >>> ((2 : Int32).toUInt32 &&& Int32.toUInt32 31)).toInt32 &&& 858993459)) + ((((x0 - ((x0.toUInt32 >>> ((1 : Int32).toUInt32 &&& Int32.toUInt32 31)).toInt32 &&& 1431655765)) &&& 858993459) + (((x0 - ((x0.toUInt32 >>> ((1 : Int32).toUInt32 &&& Int32.toUInt32 31)).toInt32 &&& 1431655765)).toUInt32 >>> ((2 : Int32).toUInt32 &&& Int32.toUInt32 31)).toInt32 &&& 858993459)).toUInt32 >>> ((4 : Int32).toUInt32 &&& Int32.toUInt32 31)).toInt32) &&& 252645135))]) hx hb d_Integer_bitCount_33 rfl hl (by decide) rfl (fun ls hl => ?_)
  refine lv_iload_n hx hb d_Integer_bitCount_34 rfl (lv_at hl 0 rfl) ?_
  refine lv_iload_n hx hb d_Integer_bitCount_35 rfl (lv_at hl 0 rfl) ?_
  refine lv_bipush (v := 8) hx hb d_Integer_bitCount_36 bp_8 ?_
  refine lv_iushr hx hb d_Integer_bitCount_38 rfl ?_
  refine lv_iadd hx hb d_Integer_bitCount_39 ?_
  refine lv_istore_n (lv' := [(0, .int ((((((x0 - ((x0.toUInt32 >>> ((1 : Int32).toUInt32 &&& Int32.toUInt32 31)).toInt32 &&& 1431655765)) &&& 858993459) + (((x0 - ((x0.toUInt32 >>> ((1 : Int32).toUInt32 &&& Int32.toUInt32 31)).toInt32 &&& 1431655765)).toUInt32 >>> ((2 : Int32).toUInt32 &&& Int32.toUInt32 31)).toInt32 &&& 858993459)) + ((((x0 - ((x0.toUInt32 >>> ((1 : Int32).toUInt32 &&& Int32.toUInt32 31)).toInt32 &&& 1431655765)) &&& 858993459) + (((x0 - ((x0.toUInt32 >>> ((1 : Int32).toUInt32 &&& Int32.toUInt32 31)).toInt32 &&& 1431655765)).toUInt32 >>> ((2 : Int32).toUInt32 &&& Int32.toUInt32 31)).toInt32 &&& 858993459)).toUInt32 >>> ((4 : Int32).toUInt32 &&& Int32.toUInt32 31)).toInt32) &&& 252645135) + ((((((x0 - ((x0.toUInt32 >>> ((1 : Int32).toUInt32 &&& Int32.toUInt32 31)).toInt32 &&& 1431655765)) &&& 858993459) + (((x0 - ((x0.toUInt32 >>> ((1 : Int32).toUInt32 &&& Int32.toUInt32 31)).toInt32 &&& 1431655765)).toUInt32 >>> ((2 : Int32).toUInt32 &&& Int32.toUInt32 31)).toInt32 &&& 858993459)) + ((((x0 - ((x0.toUInt32 >>> ((1 : Int32).toUInt32 &&& Int32.toUInt32 31)).toInt32 &&& 1431655765)) &&& 858993459) + (((x0 - ((x0.toUInt32 >>> ((1 : Int32).toUInt32 &&& Int32.toUInt32 31)).toInt32 &&& 1431655765)).toUInt32 >>> ((2 : Int32).toUInt32 &&& Int32.toUInt32 31)).toInt32 &&& 858993459)).toUInt32 >>> ((4 : Int32).toUInt32 &&& Int32.toUInt32 31)).toInt32) &&& 252645135).toUInt32 >>> ((8 : Int32).toUInt32 &&& Int32.toUInt32 31)).toInt32))]) hx hb d_Integer_bitCount_40 rfl hl (by decide) rfl (fun ls hl => ?_)
  refine lv_iload_n hx hb d_Integer_bitCount_41 rfl (lv_at hl 0 rfl) ?_
  refine lv_iload_n hx hb d_Integer_bitCount_42 rfl (lv_at hl 0 rfl) ?_
  refine lv_bipush (v := 16) hx hb d_Integer_bitCount_43 bp_16 ?_
  refine lv_iushr hx hb d_Integer_bitCount_45 rfl ?_
  refine lv_iadd hx hb d_Integer_bitCount_46 ?_
  refine lv_istore_n (lv' := [(0, .int (((((((x0 - ((x0.toUInt32 >>> ((1 : Int32).toUInt32 &&& Int32.toUInt32 31)).toInt32 &&& 1431655765)) &&& 858993459) + (((x0 - ((x0.toUInt32 >>> ((1 : Int32).toUInt32 &&& Int32.toUInt32 31)).toInt32 &&& 1431655765)).toUInt32 >>> ((2 : Int32).toUInt32 &&& Int32.toUInt32 31)).toInt32 &&& 858993459)) + ((((x0 - ((x0.toUInt32 >>> ((1 : Int32).toUInt32 &&& Int32.toUInt32 31)).toInt32 &&& 1431655765)) &&& 858993459) + (((x0 - ((x0.toUInt32 >>> ((1 : Int32).toUInt32 &&& Int32.toUInt32 31)).toInt32 &&& 1431655765)).toUInt32 >>> ((2 : Int32).toUInt32 &&& Int32.toUInt32 31)).toInt32 &&& 858993459)).toUInt32 >>> ((4 : Int32).toUInt32 &&& Int32.toUInt32 31)).toInt32) &&& 252645135) + ((((((x0 - ((x0.toUInt32 >>> ((1 : Int32).toUInt32 &&& Int32.toUInt32 31)).toInt32 &&& 1431655765)) &&& 858993459) + (((x0 - ((x0.toUInt32 >>> ((1 : Int32).toUInt32 &&& Int32.toUInt32 31)).toInt32 &&& 1431655765)).toUInt32 >>> ((2 : Int32).toUInt32 &&& Int32.toUInt32 31)).toInt32 &&& 858993459)) + ((((x0 - ((x0.toUInt32 >>> ((1 : Int32).toUInt32 &&& Int32.toUInt32 31)).toInt32 &&& 1431655765)) &&& 858993459) + (((x0 - ((x0.toUInt32 >>> ((1 : Int32).toUInt32 &&& Int32.toUInt32 31)).toInt32 &&& 1431655765)).toUInt32 >>> ((2 : Int32).toUInt32 &&& Int32.toUInt32 31)).toInt32 &&& 858993459)).toUInt32 >>> ((4 : Int32).toUInt32 &&& Int32.toUInt32 31)).toInt32) &&& 252645135).toUInt32 >>> ((8 : Int32).toUInt32 &&& Int32.toUInt32 31)).toInt32) + (((((((x0 - ((x0.toUInt32 >>> ((1 : Int32).toUInt32 &&& Int32.toUInt32 31)).toInt32 &&& 1431655765)) &&& 858993459) + (((x0 - ((x0.toUInt32 >>> ((1 : Int32).toUInt32 &&& Int32.toUInt32 31)).toInt32 &&& 1431655765)).toUInt32 >>> ((2 : Int32).toUInt32 &&& Int32.toUInt32 31)).toInt32 &&& 858993459)) + ((((x0 - ((x0.toUInt32 >>> ((1 : Int32).toUInt32 &&& Int32.toUInt32 31)).toInt32 &&& 1431655765)) &&& 858993459) + (((x0 - ((x0.toUInt32 >>> ((1 : Int32).toUInt32 &&& Int32.toUInt32 31)).toInt32 &&& 1431655765)).toUInt32 >>> ((2 : Int32).toUInt32 &&& Int32.toUInt32 31)).toInt32 &&& 858993459)).toUInt32 >>> ((4 : Int32).toUInt32 &&& Int32.toUInt32 31)).toInt32) &&& 252645135) + ((((((x0 - ((x0.toUInt32 >>> ((1 : Int32).toUInt32 &&& Int32.toUInt32 31)).toInt32 &&& 1431655765)) &&& 858993459) + (((x0 - ((x0.toUInt32 >>> ((1 : Int32).toUInt32 &&& Int32.toUInt32 31)).toInt32 &&& 1431655765)).toUInt32 >>> ((2 : Int32).toUInt32 &&& Int32.toUInt32 31)).toInt32 &&& 858993459)) + ((((x0 - ((x0.toUInt32 >>> ((1 : Int32).toUInt32 &&& Int32.toUInt32 31)).toInt32 &&& 1431655765)) &&& 858993459) + (((x0 - ((x0.toUInt32 >>> ((1 : Int32).toUInt32 &&& Int32.toUInt32 31)).toInt32 &&& 1431655765)).toUInt32 >>> ((2 : Int32).toUInt32 &&& Int32.toUInt32 31)).toInt32 &&& 858993459)).toUInt32 >>> ((4 : Int32).toUInt32 &&& Int32.toUInt32 31)).toInt32) &&& 252645135).toUInt32 >>> ((8 : Int32).toUInt32 &&& Int32.toUInt32 31)).toInt32).toUInt32 >>> ((16 : Int32).toUInt32 &&& Int32.toUInt32 31)).toInt32))]) hx hb d_Integer_bitCount_47 rfl hl (by decide) rfl (fun ls hl => ?_)
  refine lv_iload_n hx hb d_Integer_bitCount_48 rfl (lv_at hl 0 rfl) ?_
  refine lv_bipush (v := 63) hx hb d_Integer_bitCount_49 bp_63 ?_
  refine lv_iand hx hb d_Integer_bitCount_51 ?_
  cases h
  exact r_iret C0 hP hS d_Integer_bitCount_52
/-! java/util/Arrays.fill -/
def rm_Arrays_fill : Room := { frames := 0, cells := 0, slots := 0, locals := 0 }
theorem d_Arrays_fill_0 : decode b_Arrays_fill 0 = .ok (.iconst 0, 1) := by decide +kernel
theorem d_Arrays_fill_1 : decode b_Arrays_fill 1 = .ok (.istore_n 2, 1) := by decide +kernel
theorem d_Arrays_fill_2 : decode b_Arrays_fill 2 = .ok (.aload_n 0, 1) := by decide +kernel
theorem d_Arrays_fill_3 : decode b_Arrays_fill 3 = .ok (.arraylength, 1) := by decide +kernel
theorem d_Arrays_fill_4 : decode b_Arrays_fill 4 = .ok (.istore_n 3, 1) := by decide +kernel
theorem d_Arrays_fill_5 : decode b_Arrays_fill 5 = .ok (.iload_n 2, 1) := by decide +kernel
theorem d_Arrays_fill_6 : decode b_Arrays_fill 6 = .ok (.iload_n 3, 1) := by decide +kernel
theorem d_Arrays_fill_7 : decode b_Arrays_fill 7 = .ok (.if_icmp .ge 13, 3) := by decide +kernel
theorem d_Arrays_fill_10 : decode b_Arrays_fill 10 = .ok (.aload_n 0, 1) := by decide +kernel
theorem d_Arrays_fill_11 : decode b_Arrays_fill 11 = .ok (.iload_n 2, 1) := by decide +kernel
theorem d_Arrays_fill_12 : decode b_Arrays_fill 12 = .ok (.iload_n 1, 1) := by decide +kernel
theorem d_Arrays_fill_13 : decode b_Arrays_fill 13 = .ok (.iastore, 1) := by decide +kernel
theorem d_Arrays_fill_14 : decode b_Arrays_fill 14 = .ok (.iinc 2 1, 3) := by decide +kernel
theorem d_Arrays_fill_17 : decode b_Arrays_fill 17 = .ok (.goto (-12), 3) := by decide +kernel
theorem d_Arrays_fill_20 : decode b_Arrays_fill 20 = .ok (.return_, 1) := by decide +kernel
def h_Arrays_fill_5 : Nat → Nat → Int32 → Int32 → Int32 → fm_M → Option fm_M
  | 0, _, _, _, _, _ => none
  | n + 1, x0, x1, x2, x3, M =>
    if x3 ≤ x2 then
      some M
    else
      (si x0 x2 x1 M).bind fun M102 =>
      h_Arrays_fill_5 n x0 x1 (x2 + 1) x3 M102
def f_Arrays_fill (x0 : Nat) (x1 : Int32) (M : fm_M) : Option fm_M :=
  (ln x0).bind fun x104 =>
  h_Arrays_fill_5 100000 x0 x1 0 x104 M
set_option maxHeartbeats 4000000 in
set_option maxRecDepth 100000 in
theorem w_Arrays_fill_5 {p : Program} {l : Launch} {e : Env} {s : State} {m : MethodId} {args : Array Value} {below : List Frame} {meth : Method} {c : Code} {G : fm_G} (C0 : fm_C p s m args meth c G (.code y_Arrays_fill b_Arrays_fill 4 none) "java/util/Arrays" b_Arrays_fill 4 none) {M' : fm_M} : ∀ (n : Nat) (x0 : Nat) (x1 : Int32) (x2 : Int32) (x3 : Int32) {M : fm_M} {H : Heap} {locs : List Loc}, kP G M H → kS G s H locs → ∀ {ls : Array Slot}, lv_has ls 4 [(0, .ref (G.2.2 + x0)), (1, .int x1), (2, .int x2), (3, .int x3)] → h_Arrays_fill_5 n x0 x1 x2 x3 M = some M' → W p l e rm_Arrays_fill s m args below meth c H locs 0 0 (MQ below (fm_Q G 212 shF none M') args s 0 0 (fm_A G.2.2)) (F0 m 5 ls []) := by
  have hx := C0.1
  have hb := C0.2.1
  intro n
  induction n with
  | zero =>
    intro x0 x1 x2 x3 M H locs hP hS ls hl h
    exact nomatch h
  | succ n ih =>
    intro x0 x1 x2 x3 M H locs hP hS ls hl h
    have h : (if x3 ≤ x2 then
        some M
      else
        (si x0 x2 x1 M).bind fun M102 =>
        h_Arrays_fill_5 n x0 x1 (x2 + 1) x3 M102) = some M' := h
    refine lv_iload_n hx hb d_Arrays_fill_5 rfl (lv_at hl 2 rfl) ?_
    refine lv_iload_n hx hb d_Arrays_fill_6 rfl (lv_at hl 3 rfl) ?_
    refine lv_icmp_ge (tgt := 20) hx hb d_Arrays_fill_7 (by decide) (fun c101 => ?_) (fun c101 => ?_)
    · rw [if_pos c101] at h
      cases h
      exact r_vret C0 hP hS d_Arrays_fill_20
    · rw [if_neg c101] at h
      refine lv_aload_n hx hb d_Arrays_fill_10 rfl (lv_at hl 0 rfl) ?_
      refine lv_iload_n hx hb d_Arrays_fill_11 rfl (lv_at hl 2 rfl) ?_
      refine lv_iload_n hx hb d_Arrays_fill_12 rfl (lv_at hl 1 rfl) ?_
      obtain ⟨M102, e103, h⟩ := ob h
      refine k_si C0 hP hS e103 d_Arrays_fill_13 (fun H locs hP hS => ?_)
      refine lv_iinc (v := (x2 + 1)) (lv' := [(2, .int (x2 + 1)), (0, .ref (G.2.2 + x0)), (1, .int x1), (3, .int x3)]) hx hb d_Arrays_fill_14 hl (k := 2) rfl (congrArg (fun z => x2 + z) ic_1) (by decide) rfl (fun ls hl => ?_)
      refine lv_goto (tgt := 5) hx hb d_Arrays_fill_17 (by decide) ?_
      exact ih x0 x1 (x2 + 1) x3 hP hS (lv_sub hl [1, 2, 0, 3] rfl) h
set_option maxHeartbeats 4000000 in
set_option maxRecDepth 100000 in
theorem c_Arrays_fill (l : Launch) (G : fm_G) (x0 : Nat) (x1 : Int32) {M M' : fm_M} (h : f_Arrays_fill x0 x1 M = some M') : kMet l y_Arrays_fill b_Arrays_fill 4 none rm_Arrays_fill G M [.ref (G.2.2 + x0), .int x1] none M' := by
  refine r_met (by decide) rfl (Nat.le_of_ble_eq_true rfl) (fun p e s m args below meth c C0 hP ls hl => ?_)
  have hx := C0.1
  have hb := C0.2.1
  have hl : lv_has ls 4 [(0, .ref (G.2.2 + x0)), (1, .int x1)] := hl
  have hS : va_S (fm_A G.2.2) s.heap s.heap [] := va_S.rf
  unfold f_Arrays_fill at h
  refine lv_iconst (v := 0) hx hb d_Arrays_fill_0 ic_0 ?_
  refine lv_istore_n (lv' := [(2, .int 0), (0, .ref (G.2.2 + x0)), (1, .int x1)]) hx hb d_Arrays_fill_1 rfl hl (by decide) rfl (fun ls hl => ?_)
  refine lv_aload_n hx hb d_Arrays_fill_2 rfl (lv_at hl 1 rfl) ?_
  obtain ⟨x104, e105, h⟩ := ob h
  refine k_ln C0 hP e105 d_Arrays_fill_3 ?_
  refine lv_istore_n (lv' := [(3, .int x104), (2, .int 0), (0, .ref (G.2.2 + x0)), (1, .int x1)]) hx hb d_Arrays_fill_4 rfl hl (by decide) rfl (fun ls hl => ?_)
  exact w_Arrays_fill_5 C0 100000 x0 x1 0 x104 hP hS (lv_sub hl [2, 3, 1, 0] rfl) h
/-! AllocationProfiler.fault -/
def rm_AP_fault : Room := { frames := 0, cells := 0, slots := 0, locals := 0 }
theorem d_AP_fault_0 : decode b_AP_fault 0 = .ok (.aload_n 0, 1) := by decide +kernel
theorem d_AP_fault_1 : decode b_AP_fault 1 = .ok (.getfield 56, 3) := by decide +kernel
theorem d_AP_fault_4 : decode b_AP_fault 4 = .ok (.ireturn, 1) := by decide +kernel
def f_AP_fault (x0 : Nat) (M : fm_M) : Option (Int32 × fm_M) :=
  (gi x0 9 8 M).bind fun x101 =>
  some (x101, M)
set_option maxHeartbeats 4000000 in
set_option maxRecDepth 100000 in
theorem c_AP_fault (l : Launch) (G : fm_G) (x0 : Nat) {v : Int32} {M M' : fm_M} (h : f_AP_fault x0 M = some (v, M')) : kMet l y_AP_fault b_AP_fault 1 (some .int) rm_AP_fault G M [.ref (G.2.2 + x0)] (some (.int v)) M' := by
  refine r_met (by decide) rfl (Nat.le_of_ble_eq_true rfl) (fun p e s m args below meth c C0 hP ls hl => ?_)
  have hx := C0.1
  have hb := C0.2.1
  have hl : lv_has ls 1 [(0, .ref (G.2.2 + x0))] := hl
  have hS : va_S (fm_A G.2.2) s.heap s.heap [] := va_S.rf
  unfold f_AP_fault at h
  refine lv_aload_n hx hb d_AP_fault_0 rfl (lv_at hl 0 rfl) ?_
  obtain ⟨x101, e102, h⟩ := ob h
  refine k_gi C0 F_AP_56 ik_9_8 hP e102 d_AP_fault_1 ?_
  cases h
  exact r_iret C0 hP hS d_AP_fault_4
/-! AllocationProfiler.isFieldCount -/
def rm_AP_isFieldCount : Room := { frames := 0, cells := 0, slots := 0, locals := 0 }
theorem d_AP_isFieldCount_0 : decode b_AP_isFieldCount 0 = .ok (.iload_n 0, 1) := by decide +kernel
theorem d_AP_isFieldCount_1 : decode b_AP_isFieldCount 1 = .ok (.ifCond .lt 12, 3) := by decide +kernel
theorem d_AP_isFieldCount_4 : decode b_AP_isFieldCount 4 = .ok (.iload_n 0, 1) := by decide +kernel
theorem d_AP_isFieldCount_5 : decode b_AP_isFieldCount 5 = .ok (.iconst 3, 1) := by decide +kernel
theorem d_AP_isFieldCount_6 : decode b_AP_isFieldCount 6 = .ok (.if_icmp .gt 7, 3) := by decide +kernel
theorem d_AP_isFieldCount_9 : decode b_AP_isFieldCount 9 = .ok (.iconst 1, 1) := by decide +kernel
theorem d_AP_isFieldCount_10 : decode b_AP_isFieldCount 10 = .ok (.goto 4, 3) := by decide +kernel
theorem d_AP_isFieldCount_13 : decode b_AP_isFieldCount 13 = .ok (.iconst 0, 1) := by decide +kernel
theorem d_AP_isFieldCount_14 : decode b_AP_isFieldCount 14 = .ok (.ireturn, 1) := by decide +kernel
def f_AP_isFieldCount (x0 : Int32) (M : fm_M) : Option (Int32 × fm_M) :=
  if x0 < 0 then
    some (0, M)
  else
    if 3 < x0 then
      some (0, M)
    else
      some (1, M)
set_option maxHeartbeats 4000000 in
set_option maxRecDepth 100000 in
theorem c_AP_isFieldCount (l : Launch) (G : fm_G) (x0 : Int32) {v : Int32} {M M' : fm_M} (h : f_AP_isFieldCount x0 M = some (v, M')) : kMet l y_AP_isFieldCount b_AP_isFieldCount 1 (some .boolean) rm_AP_isFieldCount G M [.int x0] (some (.int v)) M' := by
  refine r_met (by decide) rfl (Nat.le_of_ble_eq_true rfl) (fun p e s m args below meth c C0 hP ls hl => ?_)
  have hx := C0.1
  have hb := C0.2.1
  have hl : lv_has ls 1 [(0, .int x0)] := hl
  have hS : va_S (fm_A G.2.2) s.heap s.heap [] := va_S.rf
  unfold f_AP_isFieldCount at h
  refine lv_iload_n hx hb d_AP_isFieldCount_0 rfl (lv_at hl 0 rfl) ?_
  refine lv_if_lt (tgt := 13) hx hb d_AP_isFieldCount_1 (by decide) (fun c101 => ?_) (fun c101 => ?_)
  · rw [if_pos c101] at h
    refine lv_iconst (v := 0) hx hb d_AP_isFieldCount_13 ic_0 ?_
    cases h
    exact r_zret C0 hP hS (Or.inl rfl) d_AP_isFieldCount_14
  · rw [if_neg c101] at h
    refine lv_iload_n hx hb d_AP_isFieldCount_4 rfl (lv_at hl 0 rfl) ?_
    refine lv_iconst (v := 3) hx hb d_AP_isFieldCount_5 ic_3 ?_
    refine lv_icmp_gt (tgt := 13) hx hb d_AP_isFieldCount_6 (by decide) (fun c102 => ?_) (fun c102 => ?_)
    · rw [if_pos c102] at h
      refine lv_iconst (v := 0) hx hb d_AP_isFieldCount_13 ic_0 ?_
      cases h
      exact r_zret C0 hP hS (Or.inl rfl) d_AP_isFieldCount_14
    · rw [if_neg c102] at h
      refine lv_iconst (v := 1) hx hb d_AP_isFieldCount_9 ic_1 ?_
      refine lv_goto (tgt := 14) hx hb d_AP_isFieldCount_10 (by decide) ?_
      cases h
      exact r_zret C0 hP hS (Or.inr rfl) d_AP_isFieldCount_14
/-! AllocationProfiler.isLocal -/
def rm_AP_isLocal : Room := { frames := 0, cells := 0, slots := 0, locals := 0 }
theorem d_AP_isLocal_0 : decode b_AP_isLocal 0 = .ok (.iload_n 0, 1) := by decide +kernel
theorem d_AP_isLocal_1 : decode b_AP_isLocal 1 = .ok (.ifCond .lt 12, 3) := by decide +kernel
theorem d_AP_isLocal_4 : decode b_AP_isLocal 4 = .ok (.iload_n 0, 1) := by decide +kernel
theorem d_AP_isLocal_5 : decode b_AP_isLocal 5 = .ok (.iconst 4, 1) := by decide +kernel
theorem d_AP_isLocal_6 : decode b_AP_isLocal 6 = .ok (.if_icmp .ge 7, 3) := by decide +kernel
theorem d_AP_isLocal_9 : decode b_AP_isLocal 9 = .ok (.iconst 1, 1) := by decide +kernel
theorem d_AP_isLocal_10 : decode b_AP_isLocal 10 = .ok (.goto 4, 3) := by decide +kernel
theorem d_AP_isLocal_13 : decode b_AP_isLocal 13 = .ok (.iconst 0, 1) := by decide +kernel
theorem d_AP_isLocal_14 : decode b_AP_isLocal 14 = .ok (.ireturn, 1) := by decide +kernel
def f_AP_isLocal (x0 : Int32) (M : fm_M) : Option (Int32 × fm_M) :=
  if x0 < 0 then
    some (0, M)
  else
    if 4 ≤ x0 then
      some (0, M)
    else
      some (1, M)
set_option maxHeartbeats 4000000 in
set_option maxRecDepth 100000 in
theorem c_AP_isLocal (l : Launch) (G : fm_G) (x0 : Int32) {v : Int32} {M M' : fm_M} (h : f_AP_isLocal x0 M = some (v, M')) : kMet l y_AP_isLocal b_AP_isLocal 1 (some .boolean) rm_AP_isLocal G M [.int x0] (some (.int v)) M' := by
  refine r_met (by decide) rfl (Nat.le_of_ble_eq_true rfl) (fun p e s m args below meth c C0 hP ls hl => ?_)
  have hx := C0.1
  have hb := C0.2.1
  have hl : lv_has ls 1 [(0, .int x0)] := hl
  have hS : va_S (fm_A G.2.2) s.heap s.heap [] := va_S.rf
  unfold f_AP_isLocal at h
  refine lv_iload_n hx hb d_AP_isLocal_0 rfl (lv_at hl 0 rfl) ?_
  refine lv_if_lt (tgt := 13) hx hb d_AP_isLocal_1 (by decide) (fun c101 => ?_) (fun c101 => ?_)
  · rw [if_pos c101] at h
    refine lv_iconst (v := 0) hx hb d_AP_isLocal_13 ic_0 ?_
    cases h
    exact r_zret C0 hP hS (Or.inl rfl) d_AP_isLocal_14
  · rw [if_neg c101] at h
    refine lv_iload_n hx hb d_AP_isLocal_4 rfl (lv_at hl 0 rfl) ?_
    refine lv_iconst (v := 4) hx hb d_AP_isLocal_5 ic_4 ?_
    refine lv_icmp_ge (tgt := 13) hx hb d_AP_isLocal_6 (by decide) (fun c102 => ?_) (fun c102 => ?_)
    · rw [if_pos c102] at h
      refine lv_iconst (v := 0) hx hb d_AP_isLocal_13 ic_0 ?_
      cases h
      exact r_zret C0 hP hS (Or.inl rfl) d_AP_isLocal_14
    · rw [if_neg c102] at h
      refine lv_iconst (v := 1) hx hb d_AP_isLocal_9 ic_1 ?_
      refine lv_goto (tgt := 14) hx hb d_AP_isLocal_10 (by decide) ?_
      cases h
      exact r_zret C0 hP hS (Or.inr rfl) d_AP_isLocal_14
/-! AllocationProfiler.isWidth -/
def rm_AP_isWidth : Room := { frames := 0, cells := 0, slots := 0, locals := 0 }
theorem d_AP_isWidth_0 : decode b_AP_isWidth 0 = .ok (.iload_n 0, 1) := by decide +kernel
theorem d_AP_isWidth_1 : decode b_AP_isWidth 1 = .ok (.iconst 1, 1) := by decide +kernel
theorem d_AP_isWidth_2 : decode b_AP_isWidth 2 = .ok (.if_icmp .eq 19, 3) := by decide +kernel
theorem d_AP_isWidth_5 : decode b_AP_isWidth 5 = .ok (.iload_n 0, 1) := by decide +kernel
theorem d_AP_isWidth_6 : decode b_AP_isWidth 6 = .ok (.iconst 2, 1) := by decide +kernel
theorem d_AP_isWidth_7 : decode b_AP_isWidth 7 = .ok (.if_icmp .eq 14, 3) := by decide +kernel
theorem d_AP_isWidth_10 : decode b_AP_isWidth 10 = .ok (.iload_n 0, 1) := by decide +kernel
theorem d_AP_isWidth_11 : decode b_AP_isWidth 11 = .ok (.iconst 4, 1) := by decide +kernel
theorem d_AP_isWidth_12 : decode b_AP_isWidth 12 = .ok (.if_icmp .eq 9, 3) := by decide +kernel
theorem d_AP_isWidth_15 : decode b_AP_isWidth 15 = .ok (.iload_n 0, 1) := by decide +kernel
theorem d_AP_isWidth_16 : decode b_AP_isWidth 16 = .ok (.bipush 8, 2) := by decide +kernel
theorem d_AP_isWidth_18 : decode b_AP_isWidth 18 = .ok (.if_icmp .ne 7, 3) := by decide +kernel
theorem d_AP_isWidth_21 : decode b_AP_isWidth 21 = .ok (.iconst 1, 1) := by decide +kernel
theorem d_AP_isWidth_22 : decode b_AP_isWidth 22 = .ok (.goto 4, 3) := by decide +kernel
theorem d_AP_isWidth_25 : decode b_AP_isWidth 25 = .ok (.iconst 0, 1) := by decide +kernel
theorem d_AP_isWidth_26 : decode b_AP_isWidth 26 = .ok (.ireturn, 1) := by decide +kernel
def j_AP_isWidth_21  (M : fm_M) : Option (Int32 × fm_M) :=
  some (1, M)
def f_AP_isWidth (x0 : Int32) (M : fm_M) : Option (Int32 × fm_M) :=
  if x0 = 1 then
    j_AP_isWidth_21 M
  else
    if x0 = 2 then
      j_AP_isWidth_21 M
    else
      if x0 = 4 then
        j_AP_isWidth_21 M
      else
        if x0 = 8 then
          j_AP_isWidth_21 M
        else
          some (0, M)
set_option maxHeartbeats 4000000 in
set_option maxRecDepth 100000 in
theorem w_AP_isWidth_21 {p : Program} {l : Launch} {e : Env} {s : State} {m : MethodId} {args : Array Value} {below : List Frame} {meth : Method} {c : Code} {G : fm_G} (C0 : fm_C p s m args meth c G (.code y_AP_isWidth b_AP_isWidth 1 (some .boolean)) "AllocationProfiler" b_AP_isWidth 1 (some .boolean)) {v : Int32} {M' : fm_M}  {M : fm_M} {H : Heap} {locs : List Loc} (hP : kP G M H) (hS : kS G s H locs) {ls : Array Slot} (hl : lv_has ls 1 []) (h : j_AP_isWidth_21  M = some (v, M')) : W p l e rm_AP_isWidth s m args below meth c H locs 0 0 (MQ below (fm_Q G 212 shF (some (.int v)) M') args s 0 0 (fm_A G.2.2)) (F0 m 21 ls []) := by
  have hx := C0.1
  have hb := C0.2.1
  unfold j_AP_isWidth_21 at h
  refine lv_iconst (v := 1) hx hb d_AP_isWidth_21 ic_1 ?_
  refine lv_goto (tgt := 26) hx hb d_AP_isWidth_22 (by decide) ?_
  cases h
  exact r_zret C0 hP hS (Or.inr rfl) d_AP_isWidth_26
set_option maxHeartbeats 4000000 in
set_option maxRecDepth 100000 in
theorem c_AP_isWidth (l : Launch) (G : fm_G) (x0 : Int32) {v : Int32} {M M' : fm_M} (h : f_AP_isWidth x0 M = some (v, M')) : kMet l y_AP_isWidth b_AP_isWidth 1 (some .boolean) rm_AP_isWidth G M [.int x0] (some (.int v)) M' := by
  refine r_met (by decide) rfl (Nat.le_of_ble_eq_true rfl) (fun p e s m args below meth c C0 hP ls hl => ?_)
  have hx := C0.1
  have hb := C0.2.1
  have hl : lv_has ls 1 [(0, .int x0)] := hl
  have hS : va_S (fm_A G.2.2) s.heap s.heap [] := va_S.rf
  unfold f_AP_isWidth at h
  refine lv_iload_n hx hb d_AP_isWidth_0 rfl (lv_at hl 0 rfl) ?_
  refine lv_iconst (v := 1) hx hb d_AP_isWidth_1 ic_1 ?_
  refine lv_icmp_eq (tgt := 21) hx hb d_AP_isWidth_2 (by decide) (fun c101 => ?_) (fun c101 => ?_)
  · rw [if_pos c101] at h
    exact w_AP_isWidth_21 C0 hP hS (lv_sub hl [] rfl) h
  · rw [if_neg c101] at h
    refine lv_iload_n hx hb d_AP_isWidth_5 rfl (lv_at hl 0 rfl) ?_
    refine lv_iconst (v := 2) hx hb d_AP_isWidth_6 ic_2 ?_
    refine lv_icmp_eq (tgt := 21) hx hb d_AP_isWidth_7 (by decide) (fun c102 => ?_) (fun c102 => ?_)
    · rw [if_pos c102] at h
      exact w_AP_isWidth_21 C0 hP hS (lv_sub hl [] rfl) h
    · rw [if_neg c102] at h
      refine lv_iload_n hx hb d_AP_isWidth_10 rfl (lv_at hl 0 rfl) ?_
      refine lv_iconst (v := 4) hx hb d_AP_isWidth_11 ic_4 ?_
      refine lv_icmp_eq (tgt := 21) hx hb d_AP_isWidth_12 (by decide) (fun c103 => ?_) (fun c103 => ?_)
      · rw [if_pos c103] at h
        exact w_AP_isWidth_21 C0 hP hS (lv_sub hl [] rfl) h
      · rw [if_neg c103] at h
        refine lv_iload_n hx hb d_AP_isWidth_15 rfl (lv_at hl 0 rfl) ?_
        refine lv_bipush (v := 8) hx hb d_AP_isWidth_16 bp_8 ?_
        refine lv_icmp_ne (tgt := 25) hx hb d_AP_isWidth_18 (by decide) (fun c104 => ?_) (fun c104 => ?_)
        · rw [if_neg c104] at h
          refine lv_iconst (v := 0) hx hb d_AP_isWidth_25 ic_0 ?_
          cases h
          exact r_zret C0 hP hS (Or.inl rfl) d_AP_isWidth_26
        · rw [if_pos c104] at h
          exact w_AP_isWidth_21 C0 hP hS (lv_sub hl [] rfl) h
/-! AllocationProfiler.branches -/
def rm_AP_branches : Room := { frames := 0, cells := 0, slots := 0, locals := 0 }
theorem d_AP_branches_0 : decode b_AP_branches 0 = .ok (.iload_n 0, 1) := by decide +kernel
theorem d_AP_branches_1 : decode b_AP_branches 1 = .ok (.bipush 8, 2) := by decide +kernel
theorem d_AP_branches_3 : decode b_AP_branches 3 = .ok (.if_icmp .eq 15, 3) := by decide +kernel
theorem d_AP_branches_6 : decode b_AP_branches 6 = .ok (.iload_n 0, 1) := by decide +kernel
theorem d_AP_branches_7 : decode b_AP_branches 7 = .ok (.bipush 9, 2) := by decide +kernel
theorem d_AP_branches_9 : decode b_AP_branches 9 = .ok (.if_icmp .eq 9, 3) := by decide +kernel
theorem d_AP_branches_12 : decode b_AP_branches 12 = .ok (.iload_n 0, 1) := by decide +kernel
theorem d_AP_branches_13 : decode b_AP_branches 13 = .ok (.bipush 10, 2) := by decide +kernel
theorem d_AP_branches_15 : decode b_AP_branches 15 = .ok (.if_icmp .ne 7, 3) := by decide +kernel
theorem d_AP_branches_18 : decode b_AP_branches 18 = .ok (.iconst 1, 1) := by decide +kernel
theorem d_AP_branches_19 : decode b_AP_branches 19 = .ok (.goto 4, 3) := by decide +kernel
theorem d_AP_branches_22 : decode b_AP_branches 22 = .ok (.iconst 0, 1) := by decide +kernel
theorem d_AP_branches_23 : decode b_AP_branches 23 = .ok (.ireturn, 1) := by decide +kernel
def j_AP_branches_18  (M : fm_M) : Option (Int32 × fm_M) :=
  some (1, M)
def f_AP_branches (x0 : Int32) (M : fm_M) : Option (Int32 × fm_M) :=
  if x0 = 8 then
    j_AP_branches_18 M
  else
    if x0 = 9 then
      j_AP_branches_18 M
    else
      if x0 = 10 then
        j_AP_branches_18 M
      else
        some (0, M)
set_option maxHeartbeats 4000000 in
set_option maxRecDepth 100000 in
theorem w_AP_branches_18 {p : Program} {l : Launch} {e : Env} {s : State} {m : MethodId} {args : Array Value} {below : List Frame} {meth : Method} {c : Code} {G : fm_G} (C0 : fm_C p s m args meth c G (.code y_AP_branches b_AP_branches 1 (some .boolean)) "AllocationProfiler" b_AP_branches 1 (some .boolean)) {v : Int32} {M' : fm_M}  {M : fm_M} {H : Heap} {locs : List Loc} (hP : kP G M H) (hS : kS G s H locs) {ls : Array Slot} (hl : lv_has ls 1 []) (h : j_AP_branches_18  M = some (v, M')) : W p l e rm_AP_branches s m args below meth c H locs 0 0 (MQ below (fm_Q G 212 shF (some (.int v)) M') args s 0 0 (fm_A G.2.2)) (F0 m 18 ls []) := by
  have hx := C0.1
  have hb := C0.2.1
  unfold j_AP_branches_18 at h
  refine lv_iconst (v := 1) hx hb d_AP_branches_18 ic_1 ?_
  refine lv_goto (tgt := 23) hx hb d_AP_branches_19 (by decide) ?_
  cases h
  exact r_zret C0 hP hS (Or.inr rfl) d_AP_branches_23
set_option maxHeartbeats 4000000 in
set_option maxRecDepth 100000 in
theorem c_AP_branches (l : Launch) (G : fm_G) (x0 : Int32) {v : Int32} {M M' : fm_M} (h : f_AP_branches x0 M = some (v, M')) : kMet l y_AP_branches b_AP_branches 1 (some .boolean) rm_AP_branches G M [.int x0] (some (.int v)) M' := by
  refine r_met (by decide) rfl (Nat.le_of_ble_eq_true rfl) (fun p e s m args below meth c C0 hP ls hl => ?_)
  have hx := C0.1
  have hb := C0.2.1
  have hl : lv_has ls 1 [(0, .int x0)] := hl
  have hS : va_S (fm_A G.2.2) s.heap s.heap [] := va_S.rf
  unfold f_AP_branches at h
  refine lv_iload_n hx hb d_AP_branches_0 rfl (lv_at hl 0 rfl) ?_
  refine lv_bipush (v := 8) hx hb d_AP_branches_1 bp_8 ?_
  refine lv_icmp_eq (tgt := 18) hx hb d_AP_branches_3 (by decide) (fun c101 => ?_) (fun c101 => ?_)
  · rw [if_pos c101] at h
    exact w_AP_branches_18 C0 hP hS (lv_sub hl [] rfl) h
  · rw [if_neg c101] at h
    refine lv_iload_n hx hb d_AP_branches_6 rfl (lv_at hl 0 rfl) ?_
    refine lv_bipush (v := 9) hx hb d_AP_branches_7 bp_9 ?_
    refine lv_icmp_eq (tgt := 18) hx hb d_AP_branches_9 (by decide) (fun c102 => ?_) (fun c102 => ?_)
    · rw [if_pos c102] at h
      exact w_AP_branches_18 C0 hP hS (lv_sub hl [] rfl) h
    · rw [if_neg c102] at h
      refine lv_iload_n hx hb d_AP_branches_12 rfl (lv_at hl 0 rfl) ?_
      refine lv_bipush (v := 10) hx hb d_AP_branches_13 bp_10 ?_
      refine lv_icmp_ne (tgt := 22) hx hb d_AP_branches_15 (by decide) (fun c103 => ?_) (fun c103 => ?_)
      · rw [if_neg c103] at h
        refine lv_iconst (v := 0) hx hb d_AP_branches_22 ic_0 ?_
        cases h
        exact r_zret C0 hP hS (Or.inl rfl) d_AP_branches_23
      · rw [if_pos c103] at h
        exact w_AP_branches_18 C0 hP hS (lv_sub hl [] rfl) h
/-! AllocationProfiler.makesObject -/
def rm_AP_makesObject : Room := { frames := 0, cells := 0, slots := 0, locals := 0 }
theorem d_AP_makesObject_0 : decode b_AP_makesObject 0 = .ok (.iload_n 0, 1) := by decide +kernel
theorem d_AP_makesObject_1 : decode b_AP_makesObject 1 = .ok (.bipush 11, 2) := by decide +kernel
theorem d_AP_makesObject_3 : decode b_AP_makesObject 3 = .ok (.if_icmp .eq 9, 3) := by decide +kernel
theorem d_AP_makesObject_6 : decode b_AP_makesObject 6 = .ok (.iload_n 0, 1) := by decide +kernel
theorem d_AP_makesObject_7 : decode b_AP_makesObject 7 = .ok (.bipush 12, 2) := by decide +kernel
theorem d_AP_makesObject_9 : decode b_AP_makesObject 9 = .ok (.if_icmp .ne 7, 3) := by decide +kernel
theorem d_AP_makesObject_12 : decode b_AP_makesObject 12 = .ok (.iconst 1, 1) := by decide +kernel
theorem d_AP_makesObject_13 : decode b_AP_makesObject 13 = .ok (.goto 4, 3) := by decide +kernel
theorem d_AP_makesObject_16 : decode b_AP_makesObject 16 = .ok (.iconst 0, 1) := by decide +kernel
theorem d_AP_makesObject_17 : decode b_AP_makesObject 17 = .ok (.ireturn, 1) := by decide +kernel
def j_AP_makesObject_12  (M : fm_M) : Option (Int32 × fm_M) :=
  some (1, M)
def f_AP_makesObject (x0 : Int32) (M : fm_M) : Option (Int32 × fm_M) :=
  if x0 = 11 then
    j_AP_makesObject_12 M
  else
    if x0 = 12 then
      j_AP_makesObject_12 M
    else
      some (0, M)
set_option maxHeartbeats 4000000 in
set_option maxRecDepth 100000 in
theorem w_AP_makesObject_12 {p : Program} {l : Launch} {e : Env} {s : State} {m : MethodId} {args : Array Value} {below : List Frame} {meth : Method} {c : Code} {G : fm_G} (C0 : fm_C p s m args meth c G (.code y_AP_makesObject b_AP_makesObject 1 (some .boolean)) "AllocationProfiler" b_AP_makesObject 1 (some .boolean)) {v : Int32} {M' : fm_M}  {M : fm_M} {H : Heap} {locs : List Loc} (hP : kP G M H) (hS : kS G s H locs) {ls : Array Slot} (hl : lv_has ls 1 []) (h : j_AP_makesObject_12  M = some (v, M')) : W p l e rm_AP_makesObject s m args below meth c H locs 0 0 (MQ below (fm_Q G 212 shF (some (.int v)) M') args s 0 0 (fm_A G.2.2)) (F0 m 12 ls []) := by
  have hx := C0.1
  have hb := C0.2.1
  unfold j_AP_makesObject_12 at h
  refine lv_iconst (v := 1) hx hb d_AP_makesObject_12 ic_1 ?_
  refine lv_goto (tgt := 17) hx hb d_AP_makesObject_13 (by decide) ?_
  cases h
  exact r_zret C0 hP hS (Or.inr rfl) d_AP_makesObject_17
set_option maxHeartbeats 4000000 in
set_option maxRecDepth 100000 in
theorem c_AP_makesObject (l : Launch) (G : fm_G) (x0 : Int32) {v : Int32} {M M' : fm_M} (h : f_AP_makesObject x0 M = some (v, M')) : kMet l y_AP_makesObject b_AP_makesObject 1 (some .boolean) rm_AP_makesObject G M [.int x0] (some (.int v)) M' := by
  refine r_met (by decide) rfl (Nat.le_of_ble_eq_true rfl) (fun p e s m args below meth c C0 hP ls hl => ?_)
  have hx := C0.1
  have hb := C0.2.1
  have hl : lv_has ls 1 [(0, .int x0)] := hl
  have hS : va_S (fm_A G.2.2) s.heap s.heap [] := va_S.rf
  unfold f_AP_makesObject at h
  refine lv_iload_n hx hb d_AP_makesObject_0 rfl (lv_at hl 0 rfl) ?_
  refine lv_bipush (v := 11) hx hb d_AP_makesObject_1 bp_11 ?_
  refine lv_icmp_eq (tgt := 12) hx hb d_AP_makesObject_3 (by decide) (fun c101 => ?_) (fun c101 => ?_)
  · rw [if_pos c101] at h
    exact w_AP_makesObject_12 C0 hP hS (lv_sub hl [] rfl) h
  · rw [if_neg c101] at h
    refine lv_iload_n hx hb d_AP_makesObject_6 rfl (lv_at hl 0 rfl) ?_
    refine lv_bipush (v := 12) hx hb d_AP_makesObject_7 bp_12 ?_
    refine lv_icmp_ne (tgt := 16) hx hb d_AP_makesObject_9 (by decide) (fun c102 => ?_) (fun c102 => ?_)
    · rw [if_neg c102] at h
      refine lv_iconst (v := 0) hx hb d_AP_makesObject_16 ic_0 ?_
      cases h
      exact r_zret C0 hP hS (Or.inl rfl) d_AP_makesObject_17
    · rw [if_pos c102] at h
      exact w_AP_makesObject_12 C0 hP hS (lv_sub hl [] rfl) h
/-! AllocationProfiler.closes -/
def rm_AP_closes : Room := { frames := 0, cells := 0, slots := 0, locals := 0 }
theorem d_AP_closes_0 : decode b_AP_closes 0 = .ok (.iload_n 0, 1) := by decide +kernel
theorem d_AP_closes_1 : decode b_AP_closes 1 = .ok (.bipush 8, 2) := by decide +kernel
theorem d_AP_closes_3 : decode b_AP_closes 3 = .ok (.if_icmp .eq 15, 3) := by decide +kernel
theorem d_AP_closes_6 : decode b_AP_closes 6 = .ok (.iload_n 0, 1) := by decide +kernel
theorem d_AP_closes_7 : decode b_AP_closes 7 = .ok (.bipush 14, 2) := by decide +kernel
theorem d_AP_closes_9 : decode b_AP_closes 9 = .ok (.if_icmp .eq 9, 3) := by decide +kernel
theorem d_AP_closes_12 : decode b_AP_closes 12 = .ok (.iload_n 0, 1) := by decide +kernel
theorem d_AP_closes_13 : decode b_AP_closes 13 = .ok (.bipush 15, 2) := by decide +kernel
theorem d_AP_closes_15 : decode b_AP_closes 15 = .ok (.if_icmp .ne 7, 3) := by decide +kernel
theorem d_AP_closes_18 : decode b_AP_closes 18 = .ok (.iconst 1, 1) := by decide +kernel
theorem d_AP_closes_19 : decode b_AP_closes 19 = .ok (.goto 4, 3) := by decide +kernel
theorem d_AP_closes_22 : decode b_AP_closes 22 = .ok (.iconst 0, 1) := by decide +kernel
theorem d_AP_closes_23 : decode b_AP_closes 23 = .ok (.ireturn, 1) := by decide +kernel
def j_AP_closes_18  (M : fm_M) : Option (Int32 × fm_M) :=
  some (1, M)
def f_AP_closes (x0 : Int32) (M : fm_M) : Option (Int32 × fm_M) :=
  if x0 = 8 then
    j_AP_closes_18 M
  else
    if x0 = 14 then
      j_AP_closes_18 M
    else
      if x0 = 15 then
        j_AP_closes_18 M
      else
        some (0, M)
set_option maxHeartbeats 4000000 in
set_option maxRecDepth 100000 in
theorem w_AP_closes_18 {p : Program} {l : Launch} {e : Env} {s : State} {m : MethodId} {args : Array Value} {below : List Frame} {meth : Method} {c : Code} {G : fm_G} (C0 : fm_C p s m args meth c G (.code y_AP_closes b_AP_closes 1 (some .boolean)) "AllocationProfiler" b_AP_closes 1 (some .boolean)) {v : Int32} {M' : fm_M}  {M : fm_M} {H : Heap} {locs : List Loc} (hP : kP G M H) (hS : kS G s H locs) {ls : Array Slot} (hl : lv_has ls 1 []) (h : j_AP_closes_18  M = some (v, M')) : W p l e rm_AP_closes s m args below meth c H locs 0 0 (MQ below (fm_Q G 212 shF (some (.int v)) M') args s 0 0 (fm_A G.2.2)) (F0 m 18 ls []) := by
  have hx := C0.1
  have hb := C0.2.1
  unfold j_AP_closes_18 at h
  refine lv_iconst (v := 1) hx hb d_AP_closes_18 ic_1 ?_
  refine lv_goto (tgt := 23) hx hb d_AP_closes_19 (by decide) ?_
  cases h
  exact r_zret C0 hP hS (Or.inr rfl) d_AP_closes_23
set_option maxHeartbeats 4000000 in
set_option maxRecDepth 100000 in
theorem c_AP_closes (l : Launch) (G : fm_G) (x0 : Int32) {v : Int32} {M M' : fm_M} (h : f_AP_closes x0 M = some (v, M')) : kMet l y_AP_closes b_AP_closes 1 (some .boolean) rm_AP_closes G M [.int x0] (some (.int v)) M' := by
  refine r_met (by decide) rfl (Nat.le_of_ble_eq_true rfl) (fun p e s m args below meth c C0 hP ls hl => ?_)
  have hx := C0.1
  have hb := C0.2.1
  have hl : lv_has ls 1 [(0, .int x0)] := hl
  have hS : va_S (fm_A G.2.2) s.heap s.heap [] := va_S.rf
  unfold f_AP_closes at h
  refine lv_iload_n hx hb d_AP_closes_0 rfl (lv_at hl 0 rfl) ?_
  refine lv_bipush (v := 8) hx hb d_AP_closes_1 bp_8 ?_
  refine lv_icmp_eq (tgt := 18) hx hb d_AP_closes_3 (by decide) (fun c101 => ?_) (fun c101 => ?_)
  · rw [if_pos c101] at h
    exact w_AP_closes_18 C0 hP hS (lv_sub hl [] rfl) h
  · rw [if_neg c101] at h
    refine lv_iload_n hx hb d_AP_closes_6 rfl (lv_at hl 0 rfl) ?_
    refine lv_bipush (v := 14) hx hb d_AP_closes_7 bp_14 ?_
    refine lv_icmp_eq (tgt := 18) hx hb d_AP_closes_9 (by decide) (fun c102 => ?_) (fun c102 => ?_)
    · rw [if_pos c102] at h
      exact w_AP_closes_18 C0 hP hS (lv_sub hl [] rfl) h
    · rw [if_neg c102] at h
      refine lv_iload_n hx hb d_AP_closes_12 rfl (lv_at hl 0 rfl) ?_
      refine lv_bipush (v := 15) hx hb d_AP_closes_13 bp_15 ?_
      refine lv_icmp_ne (tgt := 22) hx hb d_AP_closes_15 (by decide) (fun c103 => ?_) (fun c103 => ?_)
      · rw [if_neg c103] at h
        refine lv_iconst (v := 0) hx hb d_AP_closes_22 ic_0 ?_
        cases h
        exact r_zret C0 hP hS (Or.inl rfl) d_AP_closes_23
      · rw [if_pos c103] at h
        exact w_AP_closes_18 C0 hP hS (lv_sub hl [] rfl) h
/-! AllocationProfiler.nextMultiple -/
def rm_AP_nextMultiple : Room := { frames := 0, cells := 0, slots := 0, locals := 0 }
theorem d_AP_nextMultiple_0 : decode b_AP_nextMultiple 0 = .ok (.lload_n 0, 1) := by decide +kernel
theorem d_AP_nextMultiple_1 : decode b_AP_nextMultiple 1 = .ok (.iload_n 2, 1) := by decide +kernel
theorem d_AP_nextMultiple_2 : decode b_AP_nextMultiple 2 = .ok (.i2l, 1) := by decide +kernel
theorem d_AP_nextMultiple_3 : decode b_AP_nextMultiple 3 = .ok (.ladd, 1) := by decide +kernel
theorem d_AP_nextMultiple_4 : decode b_AP_nextMultiple 4 = .ok (.lconst 1, 1) := by decide +kernel
theorem d_AP_nextMultiple_5 : decode b_AP_nextMultiple 5 = .ok (.lsub, 1) := by decide +kernel
theorem d_AP_nextMultiple_6 : decode b_AP_nextMultiple 6 = .ok (.iload_n 2, 1) := by decide +kernel
theorem d_AP_nextMultiple_7 : decode b_AP_nextMultiple 7 = .ok (.ineg, 1) := by decide +kernel
theorem d_AP_nextMultiple_8 : decode b_AP_nextMultiple 8 = .ok (.i2l, 1) := by decide +kernel
theorem d_AP_nextMultiple_9 : decode b_AP_nextMultiple 9 = .ok (.land, 1) := by decide +kernel
theorem d_AP_nextMultiple_10 : decode b_AP_nextMultiple 10 = .ok (.lreturn, 1) := by decide +kernel
def f_AP_nextMultiple (x0 : Int64) (x2 : Int32) (M : fm_M) : Option (Int64 × fm_M) :=
  some ((((x0 + x2.toInt64) - 1) &&& (-x2).toInt64), M)
set_option maxHeartbeats 4000000 in
set_option maxRecDepth 100000 in
theorem c_AP_nextMultiple (l : Launch) (G : fm_G) (x0 : Int64) (x2 : Int32) {v : Int64} {M M' : fm_M} (h : f_AP_nextMultiple x0 x2 M = some (v, M')) : kMet l y_AP_nextMultiple b_AP_nextMultiple 3 (some .long) rm_AP_nextMultiple G M [.long x0, .int x2] (some (.long v)) M' := by
  refine r_met (by decide) rfl (Nat.le_of_ble_eq_true rfl) (fun p e s m args below meth c C0 hP ls hl => ?_)
  have hx := C0.1
  have hb := C0.2.1
  have hl : lv_has ls 3 [(0, .long x0), (2, .int x2)] := hl
  have hS : va_S (fm_A G.2.2) s.heap s.heap [] := va_S.rf
  unfold f_AP_nextMultiple at h
  refine lv_lload_n hx hb d_AP_nextMultiple_0 rfl (lv_at hl 0 rfl) ?_
  refine lv_iload_n hx hb d_AP_nextMultiple_1 rfl (lv_at hl 1 rfl) ?_
  refine lv_i2l hx hb d_AP_nextMultiple_2 rfl ?_
  refine lv_ladd hx hb d_AP_nextMultiple_3 ?_
  refine lv_lconst (v := 1) hx hb d_AP_nextMultiple_4 lc_1 ?_
  refine lv_lsub hx hb d_AP_nextMultiple_5 ?_
  refine lv_iload_n hx hb d_AP_nextMultiple_6 rfl (lv_at hl 1 rfl) ?_
  refine lv_ineg hx hb d_AP_nextMultiple_7 ?_
  refine lv_i2l hx hb d_AP_nextMultiple_8 rfl ?_
  refine lv_land hx hb d_AP_nextMultiple_9 ?_
  cases h
  exact r_lret C0 hP hS d_AP_nextMultiple_10
/-! AllocationProfiler$Types.has -/
def rm_Types_has : Room := { frames := 0, cells := 0, slots := 0, locals := 0 }
theorem d_Types_has_0 : decode b_Types_has 0 = .ok (.iload_n 1, 1) := by decide +kernel
theorem d_Types_has_1 : decode b_Types_has 1 = .ok (.ifCond .lt 15, 3) := by decide +kernel
theorem d_Types_has_4 : decode b_Types_has 4 = .ok (.iload_n 1, 1) := by decide +kernel
theorem d_Types_has_5 : decode b_Types_has 5 = .ok (.aload_n 0, 1) := by decide +kernel
theorem d_Types_has_6 : decode b_Types_has 6 = .ok (.getfield 15, 3) := by decide +kernel
theorem d_Types_has_9 : decode b_Types_has 9 = .ok (.if_icmp .ge 7, 3) := by decide +kernel
theorem d_Types_has_12 : decode b_Types_has 12 = .ok (.iconst 1, 1) := by decide +kernel
theorem d_Types_has_13 : decode b_Types_has 13 = .ok (.goto 4, 3) := by decide +kernel
theorem d_Types_has_16 : decode b_Types_has 16 = .ok (.iconst 0, 1) := by decide +kernel
theorem d_Types_has_17 : decode b_Types_has 17 = .ok (.ireturn, 1) := by decide +kernel
def f_Types_has (x0 : Nat) (x1 : Int32) (M : fm_M) : Option (Int32 × fm_M) :=
  if x1 < 0 then
    some (0, M)
  else
    (gi x0 8 1 M).bind fun x102 =>
    if x102 ≤ x1 then
      some (0, M)
    else
      some (1, M)
set_option maxHeartbeats 4000000 in
set_option maxRecDepth 100000 in
theorem c_Types_has (l : Launch) (G : fm_G) (x0 : Nat) (x1 : Int32) {v : Int32} {M M' : fm_M} (h : f_Types_has x0 x1 M = some (v, M')) : kMet l y_Types_has b_Types_has 2 (some .boolean) rm_Types_has G M [.ref (G.2.2 + x0), .int x1] (some (.int v)) M' := by
  refine r_met (by decide) rfl (Nat.le_of_ble_eq_true rfl) (fun p e s m args below meth c C0 hP ls hl => ?_)
  have hx := C0.1
  have hb := C0.2.1
  have hl : lv_has ls 2 [(0, .ref (G.2.2 + x0)), (1, .int x1)] := hl
  have hS : va_S (fm_A G.2.2) s.heap s.heap [] := va_S.rf
  unfold f_Types_has at h
  refine lv_iload_n hx hb d_Types_has_0 rfl (lv_at hl 1 rfl) ?_
  refine lv_if_lt (tgt := 16) hx hb d_Types_has_1 (by decide) (fun c101 => ?_) (fun c101 => ?_)
  · rw [if_pos c101] at h
    refine lv_iconst (v := 0) hx hb d_Types_has_16 ic_0 ?_
    cases h
    exact r_zret C0 hP hS (Or.inl rfl) d_Types_has_17
  · rw [if_neg c101] at h
    refine lv_iload_n hx hb d_Types_has_4 rfl (lv_at hl 1 rfl) ?_
    refine lv_aload_n hx hb d_Types_has_5 rfl (lv_at hl 0 rfl) ?_
    obtain ⟨x102, e103, h⟩ := ob h
    refine k_gi C0 F_Types_15 ik_8_1 hP e103 d_Types_has_6 ?_
    refine lv_icmp_ge (tgt := 16) hx hb d_Types_has_9 (by decide) (fun c104 => ?_) (fun c104 => ?_)
    · rw [if_pos c104] at h
      refine lv_iconst (v := 0) hx hb d_Types_has_16 ic_0 ?_
      cases h
      exact r_zret C0 hP hS (Or.inl rfl) d_Types_has_17
    · rw [if_neg c104] at h
      refine lv_iconst (v := 1) hx hb d_Types_has_12 ic_1 ?_
      refine lv_goto (tgt := 17) hx hb d_Types_has_13 (by decide) ?_
      cases h
      exact r_zret C0 hP hS (Or.inr rfl) d_Types_has_17
/-! AllocationProfiler$Types.isFull -/
def rm_Types_isFull : Room := { frames := 0, cells := 0, slots := 0, locals := 0 }
theorem d_Types_isFull_0 : decode b_Types_isFull 0 = .ok (.aload_n 0, 1) := by decide +kernel
theorem d_Types_isFull_1 : decode b_Types_isFull 1 = .ok (.getfield 15, 3) := by decide +kernel
theorem d_Types_isFull_4 : decode b_Types_isFull 4 = .ok (.bipush 6, 2) := by decide +kernel
theorem d_Types_isFull_6 : decode b_Types_isFull 6 = .ok (.if_icmp .lt 7, 3) := by decide +kernel
theorem d_Types_isFull_9 : decode b_Types_isFull 9 = .ok (.iconst 1, 1) := by decide +kernel
theorem d_Types_isFull_10 : decode b_Types_isFull 10 = .ok (.goto 4, 3) := by decide +kernel
theorem d_Types_isFull_13 : decode b_Types_isFull 13 = .ok (.iconst 0, 1) := by decide +kernel
theorem d_Types_isFull_14 : decode b_Types_isFull 14 = .ok (.ireturn, 1) := by decide +kernel
def f_Types_isFull (x0 : Nat) (M : fm_M) : Option (Int32 × fm_M) :=
  (gi x0 8 1 M).bind fun x101 =>
  if x101 < 6 then
    some (0, M)
  else
    some (1, M)
set_option maxHeartbeats 4000000 in
set_option maxRecDepth 100000 in
theorem c_Types_isFull (l : Launch) (G : fm_G) (x0 : Nat) {v : Int32} {M M' : fm_M} (h : f_Types_isFull x0 M = some (v, M')) : kMet l y_Types_isFull b_Types_isFull 1 (some .boolean) rm_Types_isFull G M [.ref (G.2.2 + x0)] (some (.int v)) M' := by
  refine r_met (by decide) rfl (Nat.le_of_ble_eq_true rfl) (fun p e s m args below meth c C0 hP ls hl => ?_)
  have hx := C0.1
  have hb := C0.2.1
  have hl : lv_has ls 1 [(0, .ref (G.2.2 + x0))] := hl
  have hS : va_S (fm_A G.2.2) s.heap s.heap [] := va_S.rf
  unfold f_Types_isFull at h
  refine lv_aload_n hx hb d_Types_isFull_0 rfl (lv_at hl 0 rfl) ?_
  obtain ⟨x101, e102, h⟩ := ob h
  refine k_gi C0 F_Types_15 ik_8_1 hP e102 d_Types_isFull_1 ?_
  refine lv_bipush (v := 6) hx hb d_Types_isFull_4 bp_6 ?_
  refine lv_icmp_lt (tgt := 13) hx hb d_Types_isFull_6 (by decide) (fun c103 => ?_) (fun c103 => ?_)
  · rw [if_pos c103] at h
    refine lv_iconst (v := 0) hx hb d_Types_isFull_13 ic_0 ?_
    cases h
    exact r_zret C0 hP hS (Or.inl rfl) d_Types_isFull_14
  · rw [if_neg c103] at h
    refine lv_iconst (v := 1) hx hb d_Types_isFull_9 ic_1 ?_
    refine lv_goto (tgt := 14) hx hb d_Types_isFull_10 (by decide) ?_
    cases h
    exact r_zret C0 hP hS (Or.inr rfl) d_Types_isFull_14
/-! AllocationProfiler$Types.endBehind -/
def rm_Types_endBehind : Room := { frames := 1, cells := 0, slots := 0, locals := 22 }
theorem d_Types_endBehind_0 : decode b_Types_endBehind 0 = .ok (.iload_n 1, 1) := by decide +kernel
theorem d_Types_endBehind_1 : decode b_Types_endBehind 1 = .ok (.ifCond .ne 7, 3) := by decide +kernel
theorem d_Types_endBehind_4 : decode b_Types_endBehind 4 = .ok (.iload_n 0, 1) := by decide +kernel
theorem d_Types_endBehind_5 : decode b_Types_endBehind 5 = .ok (.goto 14, 3) := by decide +kernel
theorem d_Types_endBehind_8 : decode b_Types_endBehind 8 = .ok (.iload_n 0, 1) := by decide +kernel
theorem d_Types_endBehind_9 : decode b_Types_endBehind 9 = .ok (.i2l, 1) := by decide +kernel
theorem d_Types_endBehind_10 : decode b_Types_endBehind 10 = .ok (.iload_n 2, 1) := by decide +kernel
theorem d_Types_endBehind_11 : decode b_Types_endBehind 11 = .ok (.invokestatic 31, 3) := by decide +kernel
theorem d_Types_endBehind_14 : decode b_Types_endBehind 14 = .ok (.l2i, 1) := by decide +kernel
theorem d_Types_endBehind_15 : decode b_Types_endBehind 15 = .ok (.iload_n 1, 1) := by decide +kernel
theorem d_Types_endBehind_16 : decode b_Types_endBehind 16 = .ok (.iload_n 2, 1) := by decide +kernel
theorem d_Types_endBehind_17 : decode b_Types_endBehind 17 = .ok (.imul, 1) := by decide +kernel
theorem d_Types_endBehind_18 : decode b_Types_endBehind 18 = .ok (.iadd, 1) := by decide +kernel
theorem d_Types_endBehind_19 : decode b_Types_endBehind 19 = .ok (.ireturn, 1) := by decide +kernel
def f_Types_endBehind (x0 : Int32) (x1 : Int32) (x2 : Int32) (M : fm_M) : Option (Int32 × fm_M) :=
  if x1 = 0 then
    some (x0, M)
  else
    bd (f_AP_nextMultiple x0.toInt64 x2 M) fun x104 M102 =>
    some ((x104.toInt32 + (x1 * x2)), M102)
set_option maxHeartbeats 4000000 in
set_option maxRecDepth 100000 in
theorem c_Types_endBehind (l : Launch) (G : fm_G) (x0 : Int32) (x1 : Int32) (x2 : Int32) {v : Int32} {M M' : fm_M} (h : f_Types_endBehind x0 x1 x2 M = some (v, M')) : kMet l y_Types_endBehind b_Types_endBehind 3 (some .int) rm_Types_endBehind G M [.int x0, .int x1, .int x2] (some (.int v)) M' := by
  refine r_met (by decide) rfl (Nat.le_of_ble_eq_true rfl) (fun p e s m args below meth c C0 hP ls hl => ?_)
  have hx := C0.1
  have hb := C0.2.1
  have hl : lv_has ls 3 [(0, .int x0), (1, .int x1), (2, .int x2)] := hl
  have hS : va_S (fm_A G.2.2) s.heap s.heap [] := va_S.rf
  unfold f_Types_endBehind at h
  refine lv_iload_n hx hb d_Types_endBehind_0 rfl (lv_at hl 1 rfl) ?_
  refine lv_if_ne (tgt := 8) hx hb d_Types_endBehind_1 (by decide) (fun c101 => ?_) (fun c101 => ?_)
  · rw [if_neg c101] at h
    refine lv_iload_n hx hb d_Types_endBehind_8 rfl (lv_at hl 0 rfl) ?_
    refine lv_i2l hx hb d_Types_endBehind_9 rfl ?_
    refine lv_iload_n hx hb d_Types_endBehind_10 rfl (lv_at hl 2 rfl) ?_
    obtain ⟨x104, M102, e103, h⟩ := ob2 h
    refine k_cSN C0 L_Types_31 (As := [.long x0.toInt64, .int x2]) (c_AP_nextMultiple l G x0.toInt64 x2 e103) ⟨rfl, rfl⟩ ⟨Nat.le_of_ble_eq_true rfl, Nat.le_of_ble_eq_true rfl⟩ hP hS rfl hl.1 rfl (Nat.le_of_ble_eq_true rfl) d_Types_endBehind_11 ⟨Nat.zero_le _, Nat.zero_le _⟩ (fun H locs hP hS => ?_)
    refine lv_l2i hx hb d_Types_endBehind_14 rfl ?_
    refine lv_iload_n hx hb d_Types_endBehind_15 rfl (lv_at hl 1 rfl) ?_
    refine lv_iload_n hx hb d_Types_endBehind_16 rfl (lv_at hl 2 rfl) ?_
    refine lv_imul hx hb d_Types_endBehind_17 ?_
    refine lv_iadd hx hb d_Types_endBehind_18 ?_
    cases h
    exact r_iret C0 hP hS d_Types_endBehind_19
  · rw [if_pos c101] at h
    refine lv_iload_n hx hb d_Types_endBehind_4 rfl (lv_at hl 0 rfl) ?_
    refine lv_goto (tgt := 19) hx hb d_Types_endBehind_5 (by decide) ?_
    cases h
    exact r_iret C0 hP hS d_Types_endBehind_19
/-! AllocationProfiler$Types.add -/
def rm_Types_add : Room := { frames := 2, cells := 0, slots := 0, locals := 44 }
theorem d_Types_add_0 : decode b_Types_add 0 = .ok (.aload_n 0, 1) := by decide +kernel
theorem d_Types_add_1 : decode b_Types_add 1 = .ok (.iload_n 1, 1) := by decide +kernel
theorem d_Types_add_2 : decode b_Types_add 2 = .ok (.invokevirtual 19, 3) := by decide +kernel
theorem d_Types_add_5 : decode b_Types_add 5 = .ok (.ifCond .eq 12, 3) := by decide +kernel
theorem d_Types_add_8 : decode b_Types_add 8 = .ok (.aload_n 0, 1) := by decide +kernel
theorem d_Types_add_9 : decode b_Types_add 9 = .ok (.getfield 9, 3) := by decide +kernel
theorem d_Types_add_12 : decode b_Types_add 12 = .ok (.iload_n 1, 1) := by decide +kernel
theorem d_Types_add_13 : decode b_Types_add 13 = .ok (.iaload, 1) := by decide +kernel
theorem d_Types_add_14 : decode b_Types_add 14 = .ok (.goto 5, 3) := by decide +kernel
theorem d_Types_add_17 : decode b_Types_add 17 = .ok (.bipush 12, 2) := by decide +kernel
theorem d_Types_add_19 : decode b_Types_add 19 = .ok (.istore 6, 2) := by decide +kernel
theorem d_Types_add_21 : decode b_Types_add 21 = .ok (.iload 6, 2) := by decide +kernel
theorem d_Types_add_23 : decode b_Types_add 23 = .ok (.iload_n 2, 1) := by decide +kernel
theorem d_Types_add_24 : decode b_Types_add 24 = .ok (.bipush 8, 2) := by decide +kernel
theorem d_Types_add_26 : decode b_Types_add 26 = .ok (.invokestatic 23, 3) := by decide +kernel
theorem d_Types_add_29 : decode b_Types_add 29 = .ok (.istore 6, 2) := by decide +kernel
theorem d_Types_add_31 : decode b_Types_add 31 = .ok (.iload 6, 2) := by decide +kernel
theorem d_Types_add_33 : decode b_Types_add 33 = .ok (.iload_n 3, 1) := by decide +kernel
theorem d_Types_add_34 : decode b_Types_add 34 = .ok (.iconst 4, 1) := by decide +kernel
theorem d_Types_add_35 : decode b_Types_add 35 = .ok (.invokestatic 23, 3) := by decide +kernel
theorem d_Types_add_38 : decode b_Types_add 38 = .ok (.istore 6, 2) := by decide +kernel
theorem d_Types_add_40 : decode b_Types_add 40 = .ok (.iload 6, 2) := by decide +kernel
theorem d_Types_add_42 : decode b_Types_add 42 = .ok (.iload 4, 2) := by decide +kernel
theorem d_Types_add_44 : decode b_Types_add 44 = .ok (.iconst 2, 1) := by decide +kernel
theorem d_Types_add_45 : decode b_Types_add 45 = .ok (.invokestatic 23, 3) := by decide +kernel
theorem d_Types_add_48 : decode b_Types_add 48 = .ok (.istore 6, 2) := by decide +kernel
theorem d_Types_add_50 : decode b_Types_add 50 = .ok (.iload 6, 2) := by decide +kernel
theorem d_Types_add_52 : decode b_Types_add 52 = .ok (.iload 5, 2) := by decide +kernel
theorem d_Types_add_54 : decode b_Types_add 54 = .ok (.iconst 1, 1) := by decide +kernel
theorem d_Types_add_55 : decode b_Types_add 55 = .ok (.invokestatic 23, 3) := by decide +kernel
theorem d_Types_add_58 : decode b_Types_add 58 = .ok (.istore 6, 2) := by decide +kernel
theorem d_Types_add_60 : decode b_Types_add 60 = .ok (.aload_n 0, 1) := by decide +kernel
theorem d_Types_add_61 : decode b_Types_add 61 = .ok (.invokevirtual 27, 3) := by decide +kernel
theorem d_Types_add_64 : decode b_Types_add 64 = .ok (.ifCond .ne 24, 3) := by decide +kernel
theorem d_Types_add_67 : decode b_Types_add 67 = .ok (.aload_n 0, 1) := by decide +kernel
theorem d_Types_add_68 : decode b_Types_add 68 = .ok (.getfield 9, 3) := by decide +kernel
theorem d_Types_add_71 : decode b_Types_add 71 = .ok (.aload_n 0, 1) := by decide +kernel
theorem d_Types_add_72 : decode b_Types_add 72 = .ok (.getfield 15, 3) := by decide +kernel
theorem d_Types_add_75 : decode b_Types_add 75 = .ok (.iload 6, 2) := by decide +kernel
theorem d_Types_add_77 : decode b_Types_add 77 = .ok (.iastore, 1) := by decide +kernel
theorem d_Types_add_78 : decode b_Types_add 78 = .ok (.aload_n 0, 1) := by decide +kernel
theorem d_Types_add_79 : decode b_Types_add 79 = .ok (.dup, 1) := by decide +kernel
theorem d_Types_add_80 : decode b_Types_add 80 = .ok (.getfield 15, 3) := by decide +kernel
theorem d_Types_add_83 : decode b_Types_add 83 = .ok (.iconst 1, 1) := by decide +kernel
theorem d_Types_add_84 : decode b_Types_add 84 = .ok (.iadd, 1) := by decide +kernel
theorem d_Types_add_85 : decode b_Types_add 85 = .ok (.putfield 15, 3) := by decide +kernel
theorem d_Types_add_88 : decode b_Types_add 88 = .ok (.aload_n 0, 1) := by decide +kernel
theorem d_Types_add_89 : decode b_Types_add 89 = .ok (.getfield 15, 3) := by decide +kernel
theorem d_Types_add_92 : decode b_Types_add 92 = .ok (.iconst 1, 1) := by decide +kernel
theorem d_Types_add_93 : decode b_Types_add 93 = .ok (.isub, 1) := by decide +kernel
theorem d_Types_add_94 : decode b_Types_add 94 = .ok (.ireturn, 1) := by decide +kernel
def j_Types_add_88 (x0 : Nat) (M : fm_M) : Option (Int32 × fm_M) :=
  (gi x0 8 1 M).bind fun x101 =>
  some ((x101 - 1), M)
def j_Types_add_19 (x0 : Nat) (x2 : Int32) (x3 : Int32) (x4 : Int32) (x5 : Int32) (s0 : Int32) (M : fm_M) : Option (Int32 × fm_M) :=
  bd (f_Types_endBehind s0 x2 8 M) fun x105 M103 =>
  bd (f_Types_endBehind x105 x3 4 M103) fun x108 M106 =>
  bd (f_Types_endBehind x108 x4 2 M106) fun x111 M109 =>
  bd (f_Types_endBehind x111 x5 1 M109) fun x114 M112 =>
  (ck x0 8).bind fun _ =>
  bd (f_Types_isFull x0 M112) fun x118 M116 =>
  if x118 = 0 then
    (gr x0 8 0).bind fun q120 =>
    (gi x0 8 1 M116).bind fun x122 =>
    (si q120 x122 x114 M116).bind fun M124 =>
    (gi x0 8 1 M124).bind fun x126 =>
    (pi x0 8 1 (x126 + 1) M124).bind fun M128 =>
    j_Types_add_88 x0 M128
  else
    j_Types_add_88 x0 M116
def f_Types_add (x0 : Nat) (x1 : Int32) (x2 : Int32) (x3 : Int32) (x4 : Int32) (x5 : Int32) (M : fm_M) : Option (Int32 × fm_M) :=
  (ck x0 8).bind fun _ =>
  bd (f_Types_has x0 x1 M) fun x133 M131 =>
  if x133 = 0 then
    j_Types_add_19 x0 x2 x3 x4 x5 12 M131
  else
    (gr x0 8 0).bind fun q135 =>
    (ai q135 x1 M131).bind fun x137 =>
    j_Types_add_19 x0 x2 x3 x4 x5 x137 M131
set_option maxHeartbeats 4000000 in
set_option maxRecDepth 100000 in
theorem w_Types_add_88 {p : Program} {l : Launch} {e : Env} {s : State} {m : MethodId} {args : Array Value} {below : List Frame} {meth : Method} {c : Code} {G : fm_G} (C0 : fm_C p s m args meth c G (.code y_Types_add b_Types_add 7 (some .int)) "AllocationProfiler$Types" b_Types_add 7 (some .int)) {v : Int32} {M' : fm_M} (x0 : Nat) {M : fm_M} {H : Heap} {locs : List Loc} (hP : kP G M H) (hS : kS G s H locs) {ls : Array Slot} (hl : lv_has ls 7 [(0, .ref (G.2.2 + x0))]) (h : j_Types_add_88 x0 M = some (v, M')) : W p l e rm_Types_add s m args below meth c H locs 0 0 (MQ below (fm_Q G 212 shF (some (.int v)) M') args s 0 0 (fm_A G.2.2)) (F0 m 88 ls []) := by
  have hx := C0.1
  have hb := C0.2.1
  unfold j_Types_add_88 at h
  refine lv_aload_n hx hb d_Types_add_88 rfl (lv_at hl 0 rfl) ?_
  obtain ⟨x101, e102, h⟩ := ob h
  refine k_gi C0 F_Types_15 ik_8_1 hP e102 d_Types_add_89 ?_
  refine lv_iconst (v := 1) hx hb d_Types_add_92 ic_1 ?_
  refine lv_isub hx hb d_Types_add_93 ?_
  cases h
  exact r_iret C0 hP hS d_Types_add_94
set_option maxHeartbeats 4000000 in
set_option maxRecDepth 100000 in
theorem w_Types_add_19 {p : Program} {l : Launch} {e : Env} {s : State} {m : MethodId} {args : Array Value} {below : List Frame} {meth : Method} {c : Code} {G : fm_G} (C0 : fm_C p s m args meth c G (.code y_Types_add b_Types_add 7 (some .int)) "AllocationProfiler$Types" b_Types_add 7 (some .int)) {v : Int32} {M' : fm_M} (x0 : Nat) (x2 : Int32) (x3 : Int32) (x4 : Int32) (x5 : Int32) (s0 : Int32) {M : fm_M} {H : Heap} {locs : List Loc} (hP : kP G M H) (hS : kS G s H locs) {ls : Array Slot} (hl : lv_has ls 7 [(0, .ref (G.2.2 + x0)), (2, .int x2), (3, .int x3), (4, .int x4), (5, .int x5)]) (h : j_Types_add_19 x0 x2 x3 x4 x5 s0 M = some (v, M')) : W p l e rm_Types_add s m args below meth c H locs 0 0 (MQ below (fm_Q G 212 shF (some (.int v)) M') args s 0 0 (fm_A G.2.2)) (F0 m 19 ls [.int s0]) := by
  have hx := C0.1
  have hb := C0.2.1
  unfold j_Types_add_19 at h
  refine lv_istore (lv' := [(6, .int s0), (0, .ref (G.2.2 + x0)), (2, .int x2), (3, .int x3), (4, .int x4), (5, .int x5)]) hx hb d_Types_add_19 hl (by decide) rfl (fun ls hl => ?_)
  refine lv_iload hx hb d_Types_add_21 (lv_at hl 0 rfl) ?_
  refine lv_iload_n hx hb d_Types_add_23 rfl (lv_at hl 2 rfl) ?_
  refine lv_bipush (v := 8) hx hb d_Types_add_24 bp_8 ?_
  obtain ⟨x105, M103, e104, h⟩ := ob2 h
  refine k_cS C0 L_Types_23 (As := [.int s0, .int x2, .int 8]) (c_Types_endBehind l G s0 x2 8 e104) ⟨rfl, rfl⟩ ⟨Nat.le_of_ble_eq_true rfl, Nat.le_of_ble_eq_true rfl⟩ hP hS rfl hl.1 rfl (Nat.le_of_ble_eq_true rfl) d_Types_add_26 ⟨Nat.zero_le _, Nat.zero_le _⟩ (fun H locs hP hS => ?_)
  refine lv_istore (lv' := [(6, .int x105), (0, .ref (G.2.2 + x0)), (2, .int x2), (3, .int x3), (4, .int x4), (5, .int x5)]) hx hb d_Types_add_29 hl (by decide) rfl (fun ls hl => ?_)
  refine lv_iload hx hb d_Types_add_31 (lv_at hl 0 rfl) ?_
  refine lv_iload_n hx hb d_Types_add_33 rfl (lv_at hl 3 rfl) ?_
  refine lv_iconst (v := 4) hx hb d_Types_add_34 ic_4 ?_
  obtain ⟨x108, M106, e107, h⟩ := ob2 h
  refine k_cS C0 L_Types_23 (As := [.int x105, .int x3, .int 4]) (c_Types_endBehind l G x105 x3 4 e107) ⟨rfl, rfl⟩ ⟨Nat.le_of_ble_eq_true rfl, Nat.le_of_ble_eq_true rfl⟩ hP hS rfl hl.1 rfl (Nat.le_of_ble_eq_true rfl) d_Types_add_35 ⟨Nat.zero_le _, Nat.zero_le _⟩ (fun H locs hP hS => ?_)
  refine lv_istore (lv' := [(6, .int x108), (0, .ref (G.2.2 + x0)), (2, .int x2), (3, .int x3), (4, .int x4), (5, .int x5)]) hx hb d_Types_add_38 hl (by decide) rfl (fun ls hl => ?_)
  refine lv_iload hx hb d_Types_add_40 (lv_at hl 0 rfl) ?_
  refine lv_iload hx hb d_Types_add_42 (lv_at hl 4 rfl) ?_
  refine lv_iconst (v := 2) hx hb d_Types_add_44 ic_2 ?_
  obtain ⟨x111, M109, e110, h⟩ := ob2 h
  refine k_cS C0 L_Types_23 (As := [.int x108, .int x4, .int 2]) (c_Types_endBehind l G x108 x4 2 e110) ⟨rfl, rfl⟩ ⟨Nat.le_of_ble_eq_true rfl, Nat.le_of_ble_eq_true rfl⟩ hP hS rfl hl.1 rfl (Nat.le_of_ble_eq_true rfl) d_Types_add_45 ⟨Nat.zero_le _, Nat.zero_le _⟩ (fun H locs hP hS => ?_)
  refine lv_istore (lv' := [(6, .int x111), (0, .ref (G.2.2 + x0)), (2, .int x2), (3, .int x3), (4, .int x4), (5, .int x5)]) hx hb d_Types_add_48 hl (by decide) rfl (fun ls hl => ?_)
  refine lv_iload hx hb d_Types_add_50 (lv_at hl 0 rfl) ?_
  refine lv_iload hx hb d_Types_add_52 (lv_at hl 5 rfl) ?_
  refine lv_iconst (v := 1) hx hb d_Types_add_54 ic_1 ?_
  obtain ⟨x114, M112, e113, h⟩ := ob2 h
  refine k_cS C0 L_Types_23 (As := [.int x111, .int x5, .int 1]) (c_Types_endBehind l G x111 x5 1 e113) ⟨rfl, rfl⟩ ⟨Nat.le_of_ble_eq_true rfl, Nat.le_of_ble_eq_true rfl⟩ hP hS rfl hl.1 rfl (Nat.le_of_ble_eq_true rfl) d_Types_add_55 ⟨Nat.zero_le _, Nat.zero_le _⟩ (fun H locs hP hS => ?_)
  refine lv_istore (lv' := [(6, .int x114), (0, .ref (G.2.2 + x0)), (2, .int x2), (3, .int x3), (4, .int x4), (5, .int x5)]) hx hb d_Types_add_58 hl (by decide) rfl (fun ls hl => ?_)
  refine lv_aload_n hx hb d_Types_add_60 rfl (lv_at hl 1 rfl) ?_
  obtain ⟨_, e115, h⟩ := ob h
  obtain ⟨x118, M116, e117, h⟩ := ob2 h
  refine k_cV C0 L_Types_27 (As := []) (c_Types_isFull l G x0 e117) ⟨rfl, rfl⟩ ⟨Nat.le_of_ble_eq_true rfl, Nat.le_of_ble_eq_true rfl⟩ hP hS (ck_of e115) ly_Types rfl hl.1 rfl (Nat.le_of_ble_eq_true rfl) d_Types_add_61 ⟨Nat.zero_le _, Nat.zero_le _⟩ (fun H locs hP hS => ?_)
  refine lv_if_ne (tgt := 88) hx hb d_Types_add_64 (by decide) (fun c119 => ?_) (fun c119 => ?_)
  · rw [if_neg c119] at h
    exact w_Types_add_88 C0 x0 hP hS (lv_sub hl [1] rfl) h
  · rw [if_pos c119] at h
    refine lv_aload_n hx hb d_Types_add_67 rfl (lv_at hl 1 rfl) ?_
    obtain ⟨q120, e121, h⟩ := ob h
    refine k_gr C0 F_Types_9 hP e121 d_Types_add_68 ?_
    refine lv_aload_n hx hb d_Types_add_71 rfl (lv_at hl 1 rfl) ?_
    obtain ⟨x122, e123, h⟩ := ob h
    refine k_gi C0 F_Types_15 ik_8_1 hP e123 d_Types_add_72 ?_
    refine lv_iload hx hb d_Types_add_75 (lv_at hl 0 rfl) ?_
    obtain ⟨M124, e125, h⟩ := ob h
    refine k_si C0 hP hS e125 d_Types_add_77 (fun H locs hP hS => ?_)
    refine lv_aload_n hx hb d_Types_add_78 rfl (lv_at hl 1 rfl) ?_
    refine lv_dup hx hb d_Types_add_79 rfl ?_
    obtain ⟨x126, e127, h⟩ := ob h
    refine k_gi C0 F_Types_15 ik_8_1 hP e127 d_Types_add_80 ?_
    refine lv_iconst (v := 1) hx hb d_Types_add_83 ic_1 ?_
    refine lv_iadd hx hb d_Types_add_84 ?_
    obtain ⟨M128, e129, h⟩ := ob h
    refine k_pi C0 F_Types_15p ik_8_1 hP hS e129 d_Types_add_85 (fun H locs hP hS => ?_)
    exact w_Types_add_88 C0 x0 hP hS (lv_sub hl [1] rfl) h
set_option maxHeartbeats 4000000 in
set_option maxRecDepth 100000 in
theorem c_Types_add (l : Launch) (G : fm_G) (x0 : Nat) (x1 : Int32) (x2 : Int32) (x3 : Int32) (x4 : Int32) (x5 : Int32) {v : Int32} {M M' : fm_M} (h : f_Types_add x0 x1 x2 x3 x4 x5 M = some (v, M')) : kMet l y_Types_add b_Types_add 7 (some .int) rm_Types_add G M [.ref (G.2.2 + x0), .int x1, .int x2, .int x3, .int x4, .int x5] (some (.int v)) M' := by
  refine r_met (by decide) rfl (Nat.le_of_ble_eq_true rfl) (fun p e s m args below meth c C0 hP ls hl => ?_)
  have hx := C0.1
  have hb := C0.2.1
  have hl : lv_has ls 7 [(0, .ref (G.2.2 + x0)), (1, .int x1), (2, .int x2), (3, .int x3), (4, .int x4), (5, .int x5)] := hl
  have hS : va_S (fm_A G.2.2) s.heap s.heap [] := va_S.rf
  unfold f_Types_add at h
  refine lv_aload_n hx hb d_Types_add_0 rfl (lv_at hl 0 rfl) ?_
  refine lv_iload_n hx hb d_Types_add_1 rfl (lv_at hl 1 rfl) ?_
  obtain ⟨_, e130, h⟩ := ob h
  obtain ⟨x133, M131, e132, h⟩ := ob2 h
  refine k_cV C0 L_Types_19 (As := [.int x1]) (c_Types_has l G x0 x1 e132) ⟨rfl, rfl⟩ ⟨Nat.le_of_ble_eq_true rfl, Nat.le_of_ble_eq_true rfl⟩ hP hS (ck_of e130) ly_Types rfl hl.1 rfl (Nat.le_of_ble_eq_true rfl) d_Types_add_2 ⟨Nat.zero_le _, Nat.zero_le _⟩ (fun H locs hP hS => ?_)
  refine lv_if_eq (tgt := 17) hx hb d_Types_add_5 (by decide) (fun c134 => ?_) (fun c134 => ?_)
  · rw [if_pos c134] at h
    refine lv_bipush (v := 12) hx hb d_Types_add_17 bp_12 ?_
    exact w_Types_add_19 C0 x0 x2 x3 x4 x5 12 hP hS (lv_sub hl [0, 2, 3, 4, 5] rfl) h
  · rw [if_neg c134] at h
    refine lv_aload_n hx hb d_Types_add_8 rfl (lv_at hl 0 rfl) ?_
    obtain ⟨q135, e136, h⟩ := ob h
    refine k_gr C0 F_Types_9 hP e136 d_Types_add_9 ?_
    refine lv_iload_n hx hb d_Types_add_12 rfl (lv_at hl 1 rfl) ?_
    obtain ⟨x137, e138, h⟩ := ob h
    refine k_ai C0 hP e138 d_Types_add_13 ?_
    refine lv_goto (tgt := 19) hx hb d_Types_add_14 (by decide) ?_
    exact w_Types_add_19 C0 x0 x2 x3 x4 x5 x137 hP hS (lv_sub hl [0, 2, 3, 4, 5] rfl) h
/-! AllocationProfiler$Types.sizeOf -/
def rm_Types_sizeOf : Room := { frames := 1, cells := 0, slots := 0, locals := 22 }
theorem d_Types_sizeOf_0 : decode b_Types_sizeOf 0 = .ok (.aload_n 0, 1) := by decide +kernel
theorem d_Types_sizeOf_1 : decode b_Types_sizeOf 1 = .ok (.iload_n 1, 1) := by decide +kernel
theorem d_Types_sizeOf_2 : decode b_Types_sizeOf 2 = .ok (.invokevirtual 19, 3) := by decide +kernel
theorem d_Types_sizeOf_5 : decode b_Types_sizeOf 5 = .ok (.ifCond .eq 19, 3) := by decide +kernel
theorem d_Types_sizeOf_8 : decode b_Types_sizeOf 8 = .ok (.aload_n 0, 1) := by decide +kernel
theorem d_Types_sizeOf_9 : decode b_Types_sizeOf 9 = .ok (.getfield 9, 3) := by decide +kernel
theorem d_Types_sizeOf_12 : decode b_Types_sizeOf 12 = .ok (.iload_n 1, 1) := by decide +kernel
theorem d_Types_sizeOf_13 : decode b_Types_sizeOf 13 = .ok (.iaload, 1) := by decide +kernel
theorem d_Types_sizeOf_14 : decode b_Types_sizeOf 14 = .ok (.i2l, 1) := by decide +kernel
theorem d_Types_sizeOf_15 : decode b_Types_sizeOf 15 = .ok (.bipush 8, 2) := by decide +kernel
theorem d_Types_sizeOf_17 : decode b_Types_sizeOf 17 = .ok (.invokestatic 31, 3) := by decide +kernel
theorem d_Types_sizeOf_20 : decode b_Types_sizeOf 20 = .ok (.l2i, 1) := by decide +kernel
theorem d_Types_sizeOf_21 : decode b_Types_sizeOf 21 = .ok (.goto 4, 3) := by decide +kernel
theorem d_Types_sizeOf_24 : decode b_Types_sizeOf 24 = .ok (.iconst 0, 1) := by decide +kernel
theorem d_Types_sizeOf_25 : decode b_Types_sizeOf 25 = .ok (.ireturn, 1) := by decide +kernel
def f_Types_sizeOf (x0 : Nat) (x1 : Int32) (M : fm_M) : Option (Int32 × fm_M) :=
  (ck x0 8).bind fun _ =>
  bd (f_Types_has x0 x1 M) fun x104 M102 =>
  if x104 = 0 then
    some (0, M102)
  else
    (gr x0 8 0).bind fun q106 =>
    (ai q106 x1 M102).bind fun x108 =>
    bd (f_AP_nextMultiple x108.toInt64 8 M102) fun x112 M110 =>
    some (x112.toInt32, M110)
set_option maxHeartbeats 4000000 in
set_option maxRecDepth 100000 in
theorem c_Types_sizeOf (l : Launch) (G : fm_G) (x0 : Nat) (x1 : Int32) {v : Int32} {M M' : fm_M} (h : f_Types_sizeOf x0 x1 M = some (v, M')) : kMet l y_Types_sizeOf b_Types_sizeOf 2 (some .int) rm_Types_sizeOf G M [.ref (G.2.2 + x0), .int x1] (some (.int v)) M' := by
  refine r_met (by decide) rfl (Nat.le_of_ble_eq_true rfl) (fun p e s m args below meth c C0 hP ls hl => ?_)
  have hx := C0.1
  have hb := C0.2.1
  have hl : lv_has ls 2 [(0, .ref (G.2.2 + x0)), (1, .int x1)] := hl
  have hS : va_S (fm_A G.2.2) s.heap s.heap [] := va_S.rf
  unfold f_Types_sizeOf at h
  refine lv_aload_n hx hb d_Types_sizeOf_0 rfl (lv_at hl 0 rfl) ?_
  refine lv_iload_n hx hb d_Types_sizeOf_1 rfl (lv_at hl 1 rfl) ?_
  obtain ⟨_, e101, h⟩ := ob h
  obtain ⟨x104, M102, e103, h⟩ := ob2 h
  refine k_cV C0 L_Types_19 (As := [.int x1]) (c_Types_has l G x0 x1 e103) ⟨rfl, rfl⟩ ⟨Nat.le_of_ble_eq_true rfl, Nat.le_of_ble_eq_true rfl⟩ hP hS (ck_of e101) ly_Types rfl hl.1 rfl (Nat.le_of_ble_eq_true rfl) d_Types_sizeOf_2 ⟨Nat.zero_le _, Nat.zero_le _⟩ (fun H locs hP hS => ?_)
  refine lv_if_eq (tgt := 24) hx hb d_Types_sizeOf_5 (by decide) (fun c105 => ?_) (fun c105 => ?_)
  · rw [if_pos c105] at h
    refine lv_iconst (v := 0) hx hb d_Types_sizeOf_24 ic_0 ?_
    cases h
    exact r_iret C0 hP hS d_Types_sizeOf_25
  · rw [if_neg c105] at h
    refine lv_aload_n hx hb d_Types_sizeOf_8 rfl (lv_at hl 0 rfl) ?_
    obtain ⟨q106, e107, h⟩ := ob h
    refine k_gr C0 F_Types_9 hP e107 d_Types_sizeOf_9 ?_
    refine lv_iload_n hx hb d_Types_sizeOf_12 rfl (lv_at hl 1 rfl) ?_
    obtain ⟨x108, e109, h⟩ := ob h
    refine k_ai C0 hP e109 d_Types_sizeOf_13 ?_
    refine lv_i2l hx hb d_Types_sizeOf_14 rfl ?_
    refine lv_bipush (v := 8) hx hb d_Types_sizeOf_15 bp_8 ?_
    obtain ⟨x112, M110, e111, h⟩ := ob2 h
    refine k_cSN C0 L_Types_31 (As := [.long x108.toInt64, .int 8]) (c_AP_nextMultiple l G x108.toInt64 8 e111) ⟨rfl, rfl⟩ ⟨Nat.le_of_ble_eq_true rfl, Nat.le_of_ble_eq_true rfl⟩ hP hS rfl hl.1 rfl (Nat.le_of_ble_eq_true rfl) d_Types_sizeOf_17 ⟨Nat.zero_le _, Nat.zero_le _⟩ (fun H locs hP hS => ?_)
    refine lv_l2i hx hb d_Types_sizeOf_20 rfl ?_
    refine lv_goto (tgt := 25) hx hb d_Types_sizeOf_21 (by decide) ?_
    cases h
    exact r_iret C0 hP hS d_Types_sizeOf_25
/-! AllocationProfiler$Code.clear -/
def rm_Code_clear : Room := { frames := 0, cells := 0, slots := 0, locals := 0 }
theorem d_Code_clear_0 : decode b_Code_clear 0 = .ok (.aload_n 0, 1) := by decide +kernel
theorem d_Code_clear_1 : decode b_Code_clear 1 = .ok (.iconst 0, 1) := by decide +kernel
theorem d_Code_clear_2 : decode b_Code_clear 2 = .ok (.putfield 21, 3) := by decide +kernel
theorem d_Code_clear_5 : decode b_Code_clear 5 = .ok (.aload_n 0, 1) := by decide +kernel
theorem d_Code_clear_6 : decode b_Code_clear 6 = .ok (.iconst 0, 1) := by decide +kernel
theorem d_Code_clear_7 : decode b_Code_clear 7 = .ok (.putfield 25, 3) := by decide +kernel
theorem d_Code_clear_10 : decode b_Code_clear 10 = .ok (.return_, 1) := by decide +kernel
def f_Code_clear (x0 : Nat) (M : fm_M) : Option fm_M :=
  (pi x0 1 5 0 M).bind fun M101 =>
  (pi x0 1 6 0 M101).bind fun M103 =>
  some M103
set_option maxHeartbeats 4000000 in
set_option maxRecDepth 100000 in
theorem c_Code_clear (l : Launch) (G : fm_G) (x0 : Nat) {M M' : fm_M} (h : f_Code_clear x0 M = some M') : kMet l y_Code_clear b_Code_clear 1 none rm_Code_clear G M [.ref (G.2.2 + x0)] none M' := by
  refine r_met (by decide) rfl (Nat.le_of_ble_eq_true rfl) (fun p e s m args below meth c C0 hP ls hl => ?_)
  have hx := C0.1
  have hb := C0.2.1
  have hl : lv_has ls 1 [(0, .ref (G.2.2 + x0))] := hl
  have hS : va_S (fm_A G.2.2) s.heap s.heap [] := va_S.rf
  unfold f_Code_clear at h
  refine lv_aload_n hx hb d_Code_clear_0 rfl (lv_at hl 0 rfl) ?_
  refine lv_iconst (v := 0) hx hb d_Code_clear_1 ic_0 ?_
  obtain ⟨M101, e102, h⟩ := ob h
  refine k_pi C0 F_Code_21p ik_1_5 hP hS e102 d_Code_clear_2 (fun H locs hP hS => ?_)
  refine lv_aload_n hx hb d_Code_clear_5 rfl (lv_at hl 0 rfl) ?_
  refine lv_iconst (v := 0) hx hb d_Code_clear_6 ic_0 ?_
  obtain ⟨M103, e104, h⟩ := ob h
  refine k_pi C0 F_Code_25p ik_1_6 hP hS e104 d_Code_clear_7 (fun H locs hP hS => ?_)
  cases h
  exact r_vret C0 hP hS d_Code_clear_10
/-! AllocationProfiler$Code.has -/
def rm_Code_has : Room := { frames := 0, cells := 0, slots := 0, locals := 0 }
theorem d_Code_has_0 : decode b_Code_has 0 = .ok (.iload_n 1, 1) := by decide +kernel
theorem d_Code_has_1 : decode b_Code_has 1 = .ok (.ifCond .lt 15, 3) := by decide +kernel
theorem d_Code_has_4 : decode b_Code_has 4 = .ok (.iload_n 1, 1) := by decide +kernel
theorem d_Code_has_5 : decode b_Code_has 5 = .ok (.aload_n 0, 1) := by decide +kernel
theorem d_Code_has_6 : decode b_Code_has 6 = .ok (.getfield 21, 3) := by decide +kernel
theorem d_Code_has_9 : decode b_Code_has 9 = .ok (.if_icmp .ge 7, 3) := by decide +kernel
theorem d_Code_has_12 : decode b_Code_has 12 = .ok (.iconst 1, 1) := by decide +kernel
theorem d_Code_has_13 : decode b_Code_has 13 = .ok (.goto 4, 3) := by decide +kernel
theorem d_Code_has_16 : decode b_Code_has 16 = .ok (.iconst 0, 1) := by decide +kernel
theorem d_Code_has_17 : decode b_Code_has 17 = .ok (.ireturn, 1) := by decide +kernel
def f_Code_has (x0 : Nat) (x1 : Int32) (M : fm_M) : Option (Int32 × fm_M) :=
  if x1 < 0 then
    some (0, M)
  else
    (gi x0 1 5 M).bind fun x102 =>
    if x102 ≤ x1 then
      some (0, M)
    else
      some (1, M)
set_option maxHeartbeats 4000000 in
set_option maxRecDepth 100000 in
theorem c_Code_has (l : Launch) (G : fm_G) (x0 : Nat) (x1 : Int32) {v : Int32} {M M' : fm_M} (h : f_Code_has x0 x1 M = some (v, M')) : kMet l y_Code_has b_Code_has 2 (some .boolean) rm_Code_has G M [.ref (G.2.2 + x0), .int x1] (some (.int v)) M' := by
  refine r_met (by decide) rfl (Nat.le_of_ble_eq_true rfl) (fun p e s m args below meth c C0 hP ls hl => ?_)
  have hx := C0.1
  have hb := C0.2.1
  have hl : lv_has ls 2 [(0, .ref (G.2.2 + x0)), (1, .int x1)] := hl
  have hS : va_S (fm_A G.2.2) s.heap s.heap [] := va_S.rf
  unfold f_Code_has at h
  refine lv_iload_n hx hb d_Code_has_0 rfl (lv_at hl 1 rfl) ?_
  refine lv_if_lt (tgt := 16) hx hb d_Code_has_1 (by decide) (fun c101 => ?_) (fun c101 => ?_)
  · rw [if_pos c101] at h
    refine lv_iconst (v := 0) hx hb d_Code_has_16 ic_0 ?_
    cases h
    exact r_zret C0 hP hS (Or.inl rfl) d_Code_has_17
  · rw [if_neg c101] at h
    refine lv_iload_n hx hb d_Code_has_4 rfl (lv_at hl 1 rfl) ?_
    refine lv_aload_n hx hb d_Code_has_5 rfl (lv_at hl 0 rfl) ?_
    obtain ⟨x102, e103, h⟩ := ob h
    refine k_gi C0 F_Code_21 ik_1_5 hP e103 d_Code_has_6 ?_
    refine lv_icmp_ge (tgt := 16) hx hb d_Code_has_9 (by decide) (fun c104 => ?_) (fun c104 => ?_)
    · rw [if_pos c104] at h
      refine lv_iconst (v := 0) hx hb d_Code_has_16 ic_0 ?_
      cases h
      exact r_zret C0 hP hS (Or.inl rfl) d_Code_has_17
    · rw [if_neg c104] at h
      refine lv_iconst (v := 1) hx hb d_Code_has_12 ic_1 ?_
      refine lv_goto (tgt := 17) hx hb d_Code_has_13 (by decide) ?_
      cases h
      exact r_zret C0 hP hS (Or.inr rfl) d_Code_has_17
/-! AllocationProfiler$Code.isFull -/
def rm_Code_isFull : Room := { frames := 0, cells := 0, slots := 0, locals := 0 }
theorem d_Code_isFull_0 : decode b_Code_isFull 0 = .ok (.aload_n 0, 1) := by decide +kernel
theorem d_Code_isFull_1 : decode b_Code_isFull 1 = .ok (.getfield 21, 3) := by decide +kernel
theorem d_Code_isFull_4 : decode b_Code_isFull 4 = .ok (.aload_n 0, 1) := by decide +kernel
theorem d_Code_isFull_5 : decode b_Code_isFull 5 = .ok (.getfield 28, 3) := by decide +kernel
theorem d_Code_isFull_8 : decode b_Code_isFull 8 = .ok (.arraylength, 1) := by decide +kernel
theorem d_Code_isFull_9 : decode b_Code_isFull 9 = .ok (.if_icmp .lt 7, 3) := by decide +kernel
theorem d_Code_isFull_12 : decode b_Code_isFull 12 = .ok (.iconst 1, 1) := by decide +kernel
theorem d_Code_isFull_13 : decode b_Code_isFull 13 = .ok (.goto 4, 3) := by decide +kernel
theorem d_Code_isFull_16 : decode b_Code_isFull 16 = .ok (.iconst 0, 1) := by decide +kernel
theorem d_Code_isFull_17 : decode b_Code_isFull 17 = .ok (.ireturn, 1) := by decide +kernel
def f_Code_isFull (x0 : Nat) (M : fm_M) : Option (Int32 × fm_M) :=
  (gi x0 1 5 M).bind fun x101 =>
  (gr x0 1 0).bind fun q103 =>
  (ln q103).bind fun x105 =>
  if x101 < x105 then
    some (0, M)
  else
    some (1, M)
set_option maxHeartbeats 4000000 in
set_option maxRecDepth 100000 in
theorem c_Code_isFull (l : Launch) (G : fm_G) (x0 : Nat) {v : Int32} {M M' : fm_M} (h : f_Code_isFull x0 M = some (v, M')) : kMet l y_Code_isFull b_Code_isFull 1 (some .boolean) rm_Code_isFull G M [.ref (G.2.2 + x0)] (some (.int v)) M' := by
  refine r_met (by decide) rfl (Nat.le_of_ble_eq_true rfl) (fun p e s m args below meth c C0 hP ls hl => ?_)
  have hx := C0.1
  have hb := C0.2.1
  have hl : lv_has ls 1 [(0, .ref (G.2.2 + x0))] := hl
  have hS : va_S (fm_A G.2.2) s.heap s.heap [] := va_S.rf
  unfold f_Code_isFull at h
  refine lv_aload_n hx hb d_Code_isFull_0 rfl (lv_at hl 0 rfl) ?_
  obtain ⟨x101, e102, h⟩ := ob h
  refine k_gi C0 F_Code_21 ik_1_5 hP e102 d_Code_isFull_1 ?_
  refine lv_aload_n hx hb d_Code_isFull_4 rfl (lv_at hl 0 rfl) ?_
  obtain ⟨q103, e104, h⟩ := ob h
  refine k_gr C0 F_Code_28 hP e104 d_Code_isFull_5 ?_
  obtain ⟨x105, e106, h⟩ := ob h
  refine k_ln C0 hP e106 d_Code_isFull_8 ?_
  refine lv_icmp_lt (tgt := 16) hx hb d_Code_isFull_9 (by decide) (fun c107 => ?_) (fun c107 => ?_)
  · rw [if_pos c107] at h
    refine lv_iconst (v := 0) hx hb d_Code_isFull_16 ic_0 ?_
    cases h
    exact r_zret C0 hP hS (Or.inl rfl) d_Code_isFull_17
  · rw [if_neg c107] at h
    refine lv_iconst (v := 1) hx hb d_Code_isFull_12 ic_1 ?_
    refine lv_goto (tgt := 17) hx hb d_Code_isFull_13 (by decide) ?_
    cases h
    exact r_zret C0 hP hS (Or.inr rfl) d_Code_isFull_17
/-! AllocationProfiler$Code.hasRange -/
def rm_Code_hasRange : Room := { frames := 0, cells := 0, slots := 0, locals := 0 }
theorem d_Code_hasRange_0 : decode b_Code_hasRange 0 = .ok (.iload_n 1, 1) := by decide +kernel
theorem d_Code_hasRange_1 : decode b_Code_hasRange 1 = .ok (.ifCond .lt 15, 3) := by decide +kernel
theorem d_Code_hasRange_4 : decode b_Code_hasRange 4 = .ok (.iload_n 1, 1) := by decide +kernel
theorem d_Code_hasRange_5 : decode b_Code_hasRange 5 = .ok (.aload_n 0, 1) := by decide +kernel
theorem d_Code_hasRange_6 : decode b_Code_hasRange 6 = .ok (.getfield 25, 3) := by decide +kernel
theorem d_Code_hasRange_9 : decode b_Code_hasRange 9 = .ok (.if_icmp .ge 7, 3) := by decide +kernel
theorem d_Code_hasRange_12 : decode b_Code_hasRange 12 = .ok (.iconst 1, 1) := by decide +kernel
theorem d_Code_hasRange_13 : decode b_Code_hasRange 13 = .ok (.goto 4, 3) := by decide +kernel
theorem d_Code_hasRange_16 : decode b_Code_hasRange 16 = .ok (.iconst 0, 1) := by decide +kernel
theorem d_Code_hasRange_17 : decode b_Code_hasRange 17 = .ok (.ireturn, 1) := by decide +kernel
def f_Code_hasRange (x0 : Nat) (x1 : Int32) (M : fm_M) : Option (Int32 × fm_M) :=
  if x1 < 0 then
    some (0, M)
  else
    (gi x0 1 6 M).bind fun x102 =>
    if x102 ≤ x1 then
      some (0, M)
    else
      some (1, M)
set_option maxHeartbeats 4000000 in
set_option maxRecDepth 100000 in
theorem c_Code_hasRange (l : Launch) (G : fm_G) (x0 : Nat) (x1 : Int32) {v : Int32} {M M' : fm_M} (h : f_Code_hasRange x0 x1 M = some (v, M')) : kMet l y_Code_hasRange b_Code_hasRange 2 (some .boolean) rm_Code_hasRange G M [.ref (G.2.2 + x0), .int x1] (some (.int v)) M' := by
  refine r_met (by decide) rfl (Nat.le_of_ble_eq_true rfl) (fun p e s m args below meth c C0 hP ls hl => ?_)
  have hx := C0.1
  have hb := C0.2.1
  have hl : lv_has ls 2 [(0, .ref (G.2.2 + x0)), (1, .int x1)] := hl
  have hS : va_S (fm_A G.2.2) s.heap s.heap [] := va_S.rf
  unfold f_Code_hasRange at h
  refine lv_iload_n hx hb d_Code_hasRange_0 rfl (lv_at hl 1 rfl) ?_
  refine lv_if_lt (tgt := 16) hx hb d_Code_hasRange_1 (by decide) (fun c101 => ?_) (fun c101 => ?_)
  · rw [if_pos c101] at h
    refine lv_iconst (v := 0) hx hb d_Code_hasRange_16 ic_0 ?_
    cases h
    exact r_zret C0 hP hS (Or.inl rfl) d_Code_hasRange_17
  · rw [if_neg c101] at h
    refine lv_iload_n hx hb d_Code_hasRange_4 rfl (lv_at hl 1 rfl) ?_
    refine lv_aload_n hx hb d_Code_hasRange_5 rfl (lv_at hl 0 rfl) ?_
    obtain ⟨x102, e103, h⟩ := ob h
    refine k_gi C0 F_Code_25 ik_1_6 hP e103 d_Code_hasRange_6 ?_
    refine lv_icmp_ge (tgt := 16) hx hb d_Code_hasRange_9 (by decide) (fun c104 => ?_) (fun c104 => ?_)
    · rw [if_pos c104] at h
      refine lv_iconst (v := 0) hx hb d_Code_hasRange_16 ic_0 ?_
      cases h
      exact r_zret C0 hP hS (Or.inl rfl) d_Code_hasRange_17
    · rw [if_neg c104] at h
      refine lv_iconst (v := 1) hx hb d_Code_hasRange_12 ic_1 ?_
      refine lv_goto (tgt := 17) hx hb d_Code_hasRange_13 (by decide) ?_
      cases h
      exact r_zret C0 hP hS (Or.inr rfl) d_Code_hasRange_17
/-! AllocationProfiler$Code.hasAllRanges -/
def rm_Code_hasAllRanges : Room := { frames := 0, cells := 0, slots := 0, locals := 0 }
theorem d_Code_hasAllRanges_0 : decode b_Code_hasAllRanges 0 = .ok (.aload_n 0, 1) := by decide +kernel
theorem d_Code_hasAllRanges_1 : decode b_Code_hasAllRanges 1 = .ok (.getfield 25, 3) := by decide +kernel
theorem d_Code_hasAllRanges_4 : decode b_Code_hasAllRanges 4 = .ok (.iconst 2, 1) := by decide +kernel
theorem d_Code_hasAllRanges_5 : decode b_Code_hasAllRanges 5 = .ok (.if_icmp .lt 7, 3) := by decide +kernel
theorem d_Code_hasAllRanges_8 : decode b_Code_hasAllRanges 8 = .ok (.iconst 1, 1) := by decide +kernel
theorem d_Code_hasAllRanges_9 : decode b_Code_hasAllRanges 9 = .ok (.goto 4, 3) := by decide +kernel
theorem d_Code_hasAllRanges_12 : decode b_Code_hasAllRanges 12 = .ok (.iconst 0, 1) := by decide +kernel
theorem d_Code_hasAllRanges_13 : decode b_Code_hasAllRanges 13 = .ok (.ireturn, 1) := by decide +kernel
def f_Code_hasAllRanges (x0 : Nat) (M : fm_M) : Option (Int32 × fm_M) :=
  (gi x0 1 6 M).bind fun x101 =>
  if x101 < 2 then
    some (0, M)
  else
    some (1, M)
set_option maxHeartbeats 4000000 in
set_option maxRecDepth 100000 in
theorem c_Code_hasAllRanges (l : Launch) (G : fm_G) (x0 : Nat) {v : Int32} {M M' : fm_M} (h : f_Code_hasAllRanges x0 M = some (v, M')) : kMet l y_Code_hasAllRanges b_Code_hasAllRanges 1 (some .boolean) rm_Code_hasAllRanges G M [.ref (G.2.2 + x0)] (some (.int v)) M' := by
  refine r_met (by decide) rfl (Nat.le_of_ble_eq_true rfl) (fun p e s m args below meth c C0 hP ls hl => ?_)
  have hx := C0.1
  have hb := C0.2.1
  have hl : lv_has ls 1 [(0, .ref (G.2.2 + x0))] := hl
  have hS : va_S (fm_A G.2.2) s.heap s.heap [] := va_S.rf
  unfold f_Code_hasAllRanges at h
  refine lv_aload_n hx hb d_Code_hasAllRanges_0 rfl (lv_at hl 0 rfl) ?_
  obtain ⟨x101, e102, h⟩ := ob h
  refine k_gi C0 F_Code_25 ik_1_6 hP e102 d_Code_hasAllRanges_1 ?_
  refine lv_iconst (v := 2) hx hb d_Code_hasAllRanges_4 ic_2 ?_
  refine lv_icmp_lt (tgt := 12) hx hb d_Code_hasAllRanges_5 (by decide) (fun c103 => ?_) (fun c103 => ?_)
  · rw [if_pos c103] at h
    refine lv_iconst (v := 0) hx hb d_Code_hasAllRanges_12 ic_0 ?_
    cases h
    exact r_zret C0 hP hS (Or.inl rfl) d_Code_hasAllRanges_13
  · rw [if_neg c103] at h
    refine lv_iconst (v := 1) hx hb d_Code_hasAllRanges_8 ic_1 ?_
    refine lv_goto (tgt := 13) hx hb d_Code_hasAllRanges_9 (by decide) ?_
    cases h
    exact r_zret C0 hP hS (Or.inr rfl) d_Code_hasAllRanges_13
/-! AllocationProfiler$Code.append -/
def rm_Code_append : Room := { frames := 1, cells := 0, slots := 0, locals := 20 }
theorem d_Code_append_0 : decode b_Code_append 0 = .ok (.aload_n 0, 1) := by decide +kernel
theorem d_Code_append_1 : decode b_Code_append 1 = .ok (.invokevirtual 34, 3) := by decide +kernel
theorem d_Code_append_4 : decode b_Code_append 4 = .ok (.ifCond .ne 33, 3) := by decide +kernel
theorem d_Code_append_7 : decode b_Code_append 7 = .ok (.aload_n 0, 1) := by decide +kernel
theorem d_Code_append_8 : decode b_Code_append 8 = .ok (.getfield 28, 3) := by decide +kernel
theorem d_Code_append_11 : decode b_Code_append 11 = .ok (.aload_n 0, 1) := by decide +kernel
theorem d_Code_append_12 : decode b_Code_append 12 = .ok (.getfield 21, 3) := by decide +kernel
theorem d_Code_append_15 : decode b_Code_append 15 = .ok (.iload_n 1, 1) := by decide +kernel
theorem d_Code_append_16 : decode b_Code_append 16 = .ok (.iastore, 1) := by decide +kernel
theorem d_Code_append_17 : decode b_Code_append 17 = .ok (.aload_n 0, 1) := by decide +kernel
theorem d_Code_append_18 : decode b_Code_append 18 = .ok (.getfield 31, 3) := by decide +kernel
theorem d_Code_append_21 : decode b_Code_append 21 = .ok (.aload_n 0, 1) := by decide +kernel
theorem d_Code_append_22 : decode b_Code_append 22 = .ok (.getfield 21, 3) := by decide +kernel
theorem d_Code_append_25 : decode b_Code_append 25 = .ok (.iload_n 2, 1) := by decide +kernel
theorem d_Code_append_26 : decode b_Code_append 26 = .ok (.iastore, 1) := by decide +kernel
theorem d_Code_append_27 : decode b_Code_append 27 = .ok (.aload_n 0, 1) := by decide +kernel
theorem d_Code_append_28 : decode b_Code_append 28 = .ok (.dup, 1) := by decide +kernel
theorem d_Code_append_29 : decode b_Code_append 29 = .ok (.getfield 21, 3) := by decide +kernel
theorem d_Code_append_32 : decode b_Code_append 32 = .ok (.iconst 1, 1) := by decide +kernel
theorem d_Code_append_33 : decode b_Code_append 33 = .ok (.iadd, 1) := by decide +kernel
theorem d_Code_append_34 : decode b_Code_append 34 = .ok (.putfield 21, 3) := by decide +kernel
theorem d_Code_append_37 : decode b_Code_append 37 = .ok (.aload_n 0, 1) := by decide +kernel
theorem d_Code_append_38 : decode b_Code_append 38 = .ok (.getfield 21, 3) := by decide +kernel
theorem d_Code_append_41 : decode b_Code_append 41 = .ok (.iconst 1, 1) := by decide +kernel
theorem d_Code_append_42 : decode b_Code_append 42 = .ok (.isub, 1) := by decide +kernel
theorem d_Code_append_43 : decode b_Code_append 43 = .ok (.ireturn, 1) := by decide +kernel
def j_Code_append_37 (x0 : Nat) (M : fm_M) : Option (Int32 × fm_M) :=
  (gi x0 1 5 M).bind fun x101 =>
  some ((x101 - 1), M)
def f_Code_append (x0 : Nat) (x1 : Int32) (x2 : Int32) (M : fm_M) : Option (Int32 × fm_M) :=
  (ck x0 1).bind fun _ =>
  bd (f_Code_isFull x0 M) fun x106 M104 =>
  if x106 = 0 then
    (gr x0 1 0).bind fun q108 =>
    (gi x0 1 5 M104).bind fun x110 =>
    (si q108 x110 x1 M104).bind fun M112 =>
    (gr x0 1 1).bind fun q114 =>
    (gi x0 1 5 M112).bind fun x116 =>
    (si q114 x116 x2 M112).bind fun M118 =>
    (gi x0 1 5 M118).bind fun x120 =>
    (pi x0 1 5 (x120 + 1) M118).bind fun M122 =>
    j_Code_append_37 x0 M122
  else
    j_Code_append_37 x0 M104
set_option maxHeartbeats 4000000 in
set_option maxRecDepth 100000 in
theorem w_Code_append_37 {p : Program} {l : Launch} {e : Env} {s : State} {m : MethodId} {args : Array Value} {below : List Frame} {meth : Method} {c : Code} {G : fm_G} (C0 : fm_C p s m args meth c G (.code y_Code_append b_Code_append 3 (some .int)) "AllocationProfiler$Code" b_Code_append 3 (some .int)) {v : Int32} {M' : fm_M} (x0 : Nat) {M : fm_M} {H : Heap} {locs : List Loc} (hP : kP G M H) (hS : kS G s H locs) {ls : Array Slot} (hl : lv_has ls 3 [(0, .ref (G.2.2 + x0))]) (h : j_Code_append_37 x0 M = some (v, M')) : W p l e rm_Code_append s m args below meth c H locs 0 0 (MQ below (fm_Q G 212 shF (some (.int v)) M') args s 0 0 (fm_A G.2.2)) (F0 m 37 ls []) := by
  have hx := C0.1
  have hb := C0.2.1
  unfold j_Code_append_37 at h
  refine lv_aload_n hx hb d_Code_append_37 rfl (lv_at hl 0 rfl) ?_
  obtain ⟨x101, e102, h⟩ := ob h
  refine k_gi C0 F_Code_21 ik_1_5 hP e102 d_Code_append_38 ?_
  refine lv_iconst (v := 1) hx hb d_Code_append_41 ic_1 ?_
  refine lv_isub hx hb d_Code_append_42 ?_
  cases h
  exact r_iret C0 hP hS d_Code_append_43
set_option maxHeartbeats 4000000 in
set_option maxRecDepth 100000 in
theorem c_Code_append (l : Launch) (G : fm_G) (x0 : Nat) (x1 : Int32) (x2 : Int32) {v : Int32} {M M' : fm_M} (h : f_Code_append x0 x1 x2 M = some (v, M')) : kMet l y_Code_append b_Code_append 3 (some .int) rm_Code_append G M [.ref (G.2.2 + x0), .int x1, .int x2] (some (.int v)) M' := by
  refine r_met (by decide) rfl (Nat.le_of_ble_eq_true rfl) (fun p e s m args below meth c C0 hP ls hl => ?_)
  have hx := C0.1
  have hb := C0.2.1
  have hl : lv_has ls 3 [(0, .ref (G.2.2 + x0)), (1, .int x1), (2, .int x2)] := hl
  have hS : va_S (fm_A G.2.2) s.heap s.heap [] := va_S.rf
  unfold f_Code_append at h
  refine lv_aload_n hx hb d_Code_append_0 rfl (lv_at hl 0 rfl) ?_
  obtain ⟨_, e103, h⟩ := ob h
  obtain ⟨x106, M104, e105, h⟩ := ob2 h
  refine k_cV C0 L_Code_34 (As := []) (c_Code_isFull l G x0 e105) ⟨rfl, rfl⟩ ⟨Nat.le_of_ble_eq_true rfl, Nat.le_of_ble_eq_true rfl⟩ hP hS (ck_of e103) ly_Code rfl hl.1 rfl (Nat.le_of_ble_eq_true rfl) d_Code_append_1 ⟨Nat.zero_le _, Nat.zero_le _⟩ (fun H locs hP hS => ?_)
  refine lv_if_ne (tgt := 37) hx hb d_Code_append_4 (by decide) (fun c107 => ?_) (fun c107 => ?_)
  · rw [if_neg c107] at h
    exact w_Code_append_37 C0 x0 hP hS (lv_sub hl [0] rfl) h
  · rw [if_pos c107] at h
    refine lv_aload_n hx hb d_Code_append_7 rfl (lv_at hl 0 rfl) ?_
    obtain ⟨q108, e109, h⟩ := ob h
    refine k_gr C0 F_Code_28 hP e109 d_Code_append_8 ?_
    refine lv_aload_n hx hb d_Code_append_11 rfl (lv_at hl 0 rfl) ?_
    obtain ⟨x110, e111, h⟩ := ob h
    refine k_gi C0 F_Code_21 ik_1_5 hP e111 d_Code_append_12 ?_
    refine lv_iload_n hx hb d_Code_append_15 rfl (lv_at hl 1 rfl) ?_
    obtain ⟨M112, e113, h⟩ := ob h
    refine k_si C0 hP hS e113 d_Code_append_16 (fun H locs hP hS => ?_)
    refine lv_aload_n hx hb d_Code_append_17 rfl (lv_at hl 0 rfl) ?_
    obtain ⟨q114, e115, h⟩ := ob h
    refine k_gr C0 F_Code_31 hP e115 d_Code_append_18 ?_
    refine lv_aload_n hx hb d_Code_append_21 rfl (lv_at hl 0 rfl) ?_
    obtain ⟨x116, e117, h⟩ := ob h
    refine k_gi C0 F_Code_21 ik_1_5 hP e117 d_Code_append_22 ?_
    refine lv_iload_n hx hb d_Code_append_25 rfl (lv_at hl 2 rfl) ?_
    obtain ⟨M118, e119, h⟩ := ob h
    refine k_si C0 hP hS e119 d_Code_append_26 (fun H locs hP hS => ?_)
    refine lv_aload_n hx hb d_Code_append_27 rfl (lv_at hl 0 rfl) ?_
    refine lv_dup hx hb d_Code_append_28 rfl ?_
    obtain ⟨x120, e121, h⟩ := ob h
    refine k_gi C0 F_Code_21 ik_1_5 hP e121 d_Code_append_29 ?_
    refine lv_iconst (v := 1) hx hb d_Code_append_32 ic_1 ?_
    refine lv_iadd hx hb d_Code_append_33 ?_
    obtain ⟨M122, e123, h⟩ := ob h
    refine k_pi C0 F_Code_21p ik_1_5 hP hS e123 d_Code_append_34 (fun H locs hP hS => ?_)
    exact w_Code_append_37 C0 x0 hP hS (lv_sub hl [0] rfl) h
/-! AllocationProfiler$Code.appendRange -/
def rm_Code_appendRange : Room := { frames := 1, cells := 0, slots := 0, locals := 20 }
theorem d_Code_appendRange_0 : decode b_Code_appendRange 0 = .ok (.aload_n 0, 1) := by decide +kernel
theorem d_Code_appendRange_1 : decode b_Code_appendRange 1 = .ok (.invokevirtual 38, 3) := by decide +kernel
theorem d_Code_appendRange_4 : decode b_Code_appendRange 4 = .ok (.ifCond .ne 43, 3) := by decide +kernel
theorem d_Code_appendRange_7 : decode b_Code_appendRange 7 = .ok (.aload_n 0, 1) := by decide +kernel
theorem d_Code_appendRange_8 : decode b_Code_appendRange 8 = .ok (.getfield 9, 3) := by decide +kernel
theorem d_Code_appendRange_11 : decode b_Code_appendRange 11 = .ok (.aload_n 0, 1) := by decide +kernel
theorem d_Code_appendRange_12 : decode b_Code_appendRange 12 = .ok (.getfield 25, 3) := by decide +kernel
theorem d_Code_appendRange_15 : decode b_Code_appendRange 15 = .ok (.iload_n 1, 1) := by decide +kernel
theorem d_Code_appendRange_16 : decode b_Code_appendRange 16 = .ok (.iastore, 1) := by decide +kernel
theorem d_Code_appendRange_17 : decode b_Code_appendRange 17 = .ok (.aload_n 0, 1) := by decide +kernel
theorem d_Code_appendRange_18 : decode b_Code_appendRange 18 = .ok (.getfield 15, 3) := by decide +kernel
theorem d_Code_appendRange_21 : decode b_Code_appendRange 21 = .ok (.aload_n 0, 1) := by decide +kernel
theorem d_Code_appendRange_22 : decode b_Code_appendRange 22 = .ok (.getfield 25, 3) := by decide +kernel
theorem d_Code_appendRange_25 : decode b_Code_appendRange 25 = .ok (.iload_n 2, 1) := by decide +kernel
theorem d_Code_appendRange_26 : decode b_Code_appendRange 26 = .ok (.iastore, 1) := by decide +kernel
theorem d_Code_appendRange_27 : decode b_Code_appendRange 27 = .ok (.aload_n 0, 1) := by decide +kernel
theorem d_Code_appendRange_28 : decode b_Code_appendRange 28 = .ok (.getfield 18, 3) := by decide +kernel
theorem d_Code_appendRange_31 : decode b_Code_appendRange 31 = .ok (.aload_n 0, 1) := by decide +kernel
theorem d_Code_appendRange_32 : decode b_Code_appendRange 32 = .ok (.getfield 25, 3) := by decide +kernel
theorem d_Code_appendRange_35 : decode b_Code_appendRange 35 = .ok (.iload_n 3, 1) := by decide +kernel
theorem d_Code_appendRange_36 : decode b_Code_appendRange 36 = .ok (.iastore, 1) := by decide +kernel
theorem d_Code_appendRange_37 : decode b_Code_appendRange 37 = .ok (.aload_n 0, 1) := by decide +kernel
theorem d_Code_appendRange_38 : decode b_Code_appendRange 38 = .ok (.dup, 1) := by decide +kernel
theorem d_Code_appendRange_39 : decode b_Code_appendRange 39 = .ok (.getfield 25, 3) := by decide +kernel
theorem d_Code_appendRange_42 : decode b_Code_appendRange 42 = .ok (.iconst 1, 1) := by decide +kernel
theorem d_Code_appendRange_43 : decode b_Code_appendRange 43 = .ok (.iadd, 1) := by decide +kernel
theorem d_Code_appendRange_44 : decode b_Code_appendRange 44 = .ok (.putfield 25, 3) := by decide +kernel
theorem d_Code_appendRange_47 : decode b_Code_appendRange 47 = .ok (.aload_n 0, 1) := by decide +kernel
theorem d_Code_appendRange_48 : decode b_Code_appendRange 48 = .ok (.getfield 25, 3) := by decide +kernel
theorem d_Code_appendRange_51 : decode b_Code_appendRange 51 = .ok (.ireturn, 1) := by decide +kernel
def f_Code_appendRange (x0 : Nat) (x1 : Int32) (x2 : Int32) (x3 : Int32) (M : fm_M) : Option (Int32 × fm_M) :=
  (ck x0 1).bind fun _ =>
  bd (f_Code_hasAllRanges x0 M) fun x104 M102 =>
  if x104 = 0 then
    (gr x0 1 2).bind fun q108 =>
    (gi x0 1 6 M102).bind fun x110 =>
    (si q108 x110 x1 M102).bind fun M112 =>
    (gr x0 1 3).bind fun q114 =>
    (gi x0 1 6 M112).bind fun x116 =>
    (si q114 x116 x2 M112).bind fun M118 =>
    (gr x0 1 4).bind fun q120 =>
    (gi x0 1 6 M118).bind fun x122 =>
    (si q120 x122 x3 M118).bind fun M124 =>
    (gi x0 1 6 M124).bind fun x126 =>
    (pi x0 1 6 (x126 + 1) M124).bind fun M128 =>
    (gi x0 1 6 M128).bind fun x130 =>
    some (x130, M128)
  else
    (gi x0 1 6 M102).bind fun x106 =>
    some (x106, M102)
set_option maxHeartbeats 4000000 in
set_option maxRecDepth 100000 in
theorem c_Code_appendRange (l : Launch) (G : fm_G) (x0 : Nat) (x1 : Int32) (x2 : Int32) (x3 : Int32) {v : Int32} {M M' : fm_M} (h : f_Code_appendRange x0 x1 x2 x3 M = some (v, M')) : kMet l y_Code_appendRange b_Code_appendRange 4 (some .int) rm_Code_appendRange G M [.ref (G.2.2 + x0), .int x1, .int x2, .int x3] (some (.int v)) M' := by
  refine r_met (by decide) rfl (Nat.le_of_ble_eq_true rfl) (fun p e s m args below meth c C0 hP ls hl => ?_)
  have hx := C0.1
  have hb := C0.2.1
  have hl : lv_has ls 4 [(0, .ref (G.2.2 + x0)), (1, .int x1), (2, .int x2), (3, .int x3)] := hl
  have hS : va_S (fm_A G.2.2) s.heap s.heap [] := va_S.rf
  unfold f_Code_appendRange at h
  refine lv_aload_n hx hb d_Code_appendRange_0 rfl (lv_at hl 0 rfl) ?_
  obtain ⟨_, e101, h⟩ := ob h
  obtain ⟨x104, M102, e103, h⟩ := ob2 h
  refine k_cV C0 L_Code_38 (As := []) (c_Code_hasAllRanges l G x0 e103) ⟨rfl, rfl⟩ ⟨Nat.le_of_ble_eq_true rfl, Nat.le_of_ble_eq_true rfl⟩ hP hS (ck_of e101) ly_Code rfl hl.1 rfl (Nat.le_of_ble_eq_true rfl) d_Code_appendRange_1 ⟨Nat.zero_le _, Nat.zero_le _⟩ (fun H locs hP hS => ?_)
  refine lv_if_ne (tgt := 47) hx hb d_Code_appendRange_4 (by decide) (fun c105 => ?_) (fun c105 => ?_)
  · rw [if_neg c105] at h
    refine lv_aload_n hx hb d_Code_appendRange_47 rfl (lv_at hl 0 rfl) ?_
    obtain ⟨x106, e107, h⟩ := ob h
    refine k_gi C0 F_Code_25 ik_1_6 hP e107 d_Code_appendRange_48 ?_
    cases h
    exact r_iret C0 hP hS d_Code_appendRange_51
  · rw [if_pos c105] at h
    refine lv_aload_n hx hb d_Code_appendRange_7 rfl (lv_at hl 0 rfl) ?_
    obtain ⟨q108, e109, h⟩ := ob h
    refine k_gr C0 F_Code_9 hP e109 d_Code_appendRange_8 ?_
    refine lv_aload_n hx hb d_Code_appendRange_11 rfl (lv_at hl 0 rfl) ?_
    obtain ⟨x110, e111, h⟩ := ob h
    refine k_gi C0 F_Code_25 ik_1_6 hP e111 d_Code_appendRange_12 ?_
    refine lv_iload_n hx hb d_Code_appendRange_15 rfl (lv_at hl 1 rfl) ?_
    obtain ⟨M112, e113, h⟩ := ob h
    refine k_si C0 hP hS e113 d_Code_appendRange_16 (fun H locs hP hS => ?_)
    refine lv_aload_n hx hb d_Code_appendRange_17 rfl (lv_at hl 0 rfl) ?_
    obtain ⟨q114, e115, h⟩ := ob h
    refine k_gr C0 F_Code_15 hP e115 d_Code_appendRange_18 ?_
    refine lv_aload_n hx hb d_Code_appendRange_21 rfl (lv_at hl 0 rfl) ?_
    obtain ⟨x116, e117, h⟩ := ob h
    refine k_gi C0 F_Code_25 ik_1_6 hP e117 d_Code_appendRange_22 ?_
    refine lv_iload_n hx hb d_Code_appendRange_25 rfl (lv_at hl 2 rfl) ?_
    obtain ⟨M118, e119, h⟩ := ob h
    refine k_si C0 hP hS e119 d_Code_appendRange_26 (fun H locs hP hS => ?_)
    refine lv_aload_n hx hb d_Code_appendRange_27 rfl (lv_at hl 0 rfl) ?_
    obtain ⟨q120, e121, h⟩ := ob h
    refine k_gr C0 F_Code_18 hP e121 d_Code_appendRange_28 ?_
    refine lv_aload_n hx hb d_Code_appendRange_31 rfl (lv_at hl 0 rfl) ?_
    obtain ⟨x122, e123, h⟩ := ob h
    refine k_gi C0 F_Code_25 ik_1_6 hP e123 d_Code_appendRange_32 ?_
    refine lv_iload_n hx hb d_Code_appendRange_35 rfl (lv_at hl 3 rfl) ?_
    obtain ⟨M124, e125, h⟩ := ob h
    refine k_si C0 hP hS e125 d_Code_appendRange_36 (fun H locs hP hS => ?_)
    refine lv_aload_n hx hb d_Code_appendRange_37 rfl (lv_at hl 0 rfl) ?_
    refine lv_dup hx hb d_Code_appendRange_38 rfl ?_
    obtain ⟨x126, e127, h⟩ := ob h
    refine k_gi C0 F_Code_25 ik_1_6 hP e127 d_Code_appendRange_39 ?_
    refine lv_iconst (v := 1) hx hb d_Code_appendRange_42 ic_1 ?_
    refine lv_iadd hx hb d_Code_appendRange_43 ?_
    obtain ⟨M128, e129, h⟩ := ob h
    refine k_pi C0 F_Code_25p ik_1_6 hP hS e129 d_Code_appendRange_44 (fun H locs hP hS => ?_)
    refine lv_aload_n hx hb d_Code_appendRange_47 rfl (lv_at hl 0 rfl) ?_
    obtain ⟨x130, e131, h⟩ := ob h
    refine k_gi C0 F_Code_25 ik_1_6 hP e131 d_Code_appendRange_48 ?_
    cases h
    exact r_iret C0 hP hS d_Code_appendRange_51
/-! AllocationProfiler$Code.copy -/
def rm_Code_copy : Room := { frames := 2, cells := 0, slots := 0, locals := 43 }
theorem d_Code_copy_0 : decode b_Code_copy 0 = .ok (.aload_n 0, 1) := by decide +kernel
theorem d_Code_copy_1 : decode b_Code_copy 1 = .ok (.invokevirtual 41, 3) := by decide +kernel
theorem d_Code_copy_4 : decode b_Code_copy 4 = .ok (.iconst 0, 1) := by decide +kernel
theorem d_Code_copy_5 : decode b_Code_copy 5 = .ok (.istore_n 2, 1) := by decide +kernel
theorem d_Code_copy_6 : decode b_Code_copy 6 = .ok (.iload_n 2, 1) := by decide +kernel
theorem d_Code_copy_7 : decode b_Code_copy 7 = .ok (.aload_n 1, 1) := by decide +kernel
theorem d_Code_copy_8 : decode b_Code_copy 8 = .ok (.getfield 21, 3) := by decide +kernel
theorem d_Code_copy_11 : decode b_Code_copy 11 = .ok (.if_icmp .ge 26, 3) := by decide +kernel
theorem d_Code_copy_14 : decode b_Code_copy 14 = .ok (.aload_n 0, 1) := by decide +kernel
theorem d_Code_copy_15 : decode b_Code_copy 15 = .ok (.aload_n 1, 1) := by decide +kernel
theorem d_Code_copy_16 : decode b_Code_copy 16 = .ok (.getfield 28, 3) := by decide +kernel
theorem d_Code_copy_19 : decode b_Code_copy 19 = .ok (.iload_n 2, 1) := by decide +kernel
theorem d_Code_copy_20 : decode b_Code_copy 20 = .ok (.iaload, 1) := by decide +kernel
theorem d_Code_copy_21 : decode b_Code_copy 21 = .ok (.aload_n 1, 1) := by decide +kernel
theorem d_Code_copy_22 : decode b_Code_copy 22 = .ok (.getfield 31, 3) := by decide +kernel
theorem d_Code_copy_25 : decode b_Code_copy 25 = .ok (.iload_n 2, 1) := by decide +kernel
theorem d_Code_copy_26 : decode b_Code_copy 26 = .ok (.iaload, 1) := by decide +kernel
theorem d_Code_copy_27 : decode b_Code_copy 27 = .ok (.invokevirtual 44, 3) := by decide +kernel
theorem d_Code_copy_30 : decode b_Code_copy 30 = .ok (.pop, 1) := by decide +kernel
theorem d_Code_copy_31 : decode b_Code_copy 31 = .ok (.iinc 2 1, 3) := by decide +kernel
theorem d_Code_copy_34 : decode b_Code_copy 34 = .ok (.goto (-28), 3) := by decide +kernel
theorem d_Code_copy_37 : decode b_Code_copy 37 = .ok (.iconst 0, 1) := by decide +kernel
theorem d_Code_copy_38 : decode b_Code_copy 38 = .ok (.istore_n 2, 1) := by decide +kernel
theorem d_Code_copy_39 : decode b_Code_copy 39 = .ok (.iload_n 2, 1) := by decide +kernel
theorem d_Code_copy_40 : decode b_Code_copy 40 = .ok (.aload_n 1, 1) := by decide +kernel
theorem d_Code_copy_41 : decode b_Code_copy 41 = .ok (.getfield 25, 3) := by decide +kernel
theorem d_Code_copy_44 : decode b_Code_copy 44 = .ok (.if_icmp .ge 32, 3) := by decide +kernel
theorem d_Code_copy_47 : decode b_Code_copy 47 = .ok (.aload_n 0, 1) := by decide +kernel
theorem d_Code_copy_48 : decode b_Code_copy 48 = .ok (.aload_n 1, 1) := by decide +kernel
theorem d_Code_copy_49 : decode b_Code_copy 49 = .ok (.getfield 9, 3) := by decide +kernel
theorem d_Code_copy_52 : decode b_Code_copy 52 = .ok (.iload_n 2, 1) := by decide +kernel
theorem d_Code_copy_53 : decode b_Code_copy 53 = .ok (.iaload, 1) := by decide +kernel
theorem d_Code_copy_54 : decode b_Code_copy 54 = .ok (.aload_n 1, 1) := by decide +kernel
theorem d_Code_copy_55 : decode b_Code_copy 55 = .ok (.getfield 15, 3) := by decide +kernel
theorem d_Code_copy_58 : decode b_Code_copy 58 = .ok (.iload_n 2, 1) := by decide +kernel
theorem d_Code_copy_59 : decode b_Code_copy 59 = .ok (.iaload, 1) := by decide +kernel
theorem d_Code_copy_60 : decode b_Code_copy 60 = .ok (.aload_n 1, 1) := by decide +kernel
theorem d_Code_copy_61 : decode b_Code_copy 61 = .ok (.getfield 18, 3) := by decide +kernel
theorem d_Code_copy_64 : decode b_Code_copy 64 = .ok (.iload_n 2, 1) := by decide +kernel
theorem d_Code_copy_65 : decode b_Code_copy 65 = .ok (.iaload, 1) := by decide +kernel
theorem d_Code_copy_66 : decode b_Code_copy 66 = .ok (.invokevirtual 48, 3) := by decide +kernel
theorem d_Code_copy_69 : decode b_Code_copy 69 = .ok (.pop, 1) := by decide +kernel
theorem d_Code_copy_70 : decode b_Code_copy 70 = .ok (.iinc 2 1, 3) := by decide +kernel
theorem d_Code_copy_73 : decode b_Code_copy 73 = .ok (.goto (-34), 3) := by decide +kernel
theorem d_Code_copy_76 : decode b_Code_copy 76 = .ok (.return_, 1) := by decide +kernel
def h_Code_copy_39 : Nat → Nat → Nat → Int32 → fm_M → Option fm_M
  | 0, _, _, _, _ => none
  | n + 1, x0, x1, x2, M =>
    (gi x1 1 6 M).bind fun x101 =>
    if x101 ≤ x2 then
      some M
    else
      (gr x1 1 2).bind fun q104 =>
      (ai q104 x2 M).bind fun x106 =>
      (gr x1 1 3).bind fun q108 =>
      (ai q108 x2 M).bind fun x110 =>
      (gr x1 1 4).bind fun q112 =>
      (ai q112 x2 M).bind fun x114 =>
      (ck x0 1).bind fun _ =>
      bd (f_Code_appendRange x0 x106 x110 x114 M) fun x119 M117 =>
      h_Code_copy_39 n x0 x1 (x2 + 1) M117
def h_Code_copy_6 : Nat → Nat → Nat → Int32 → fm_M → Option fm_M
  | 0, _, _, _, _ => none
  | n + 1, x0, x1, x2, M =>
    (gi x1 1 5 M).bind fun x120 =>
    if x120 ≤ x2 then
      h_Code_copy_39 100000 x0 x1 0 M
    else
      (gr x1 1 0).bind fun q123 =>
      (ai q123 x2 M).bind fun x125 =>
      (gr x1 1 1).bind fun q127 =>
      (ai q127 x2 M).bind fun x129 =>
      (ck x0 1).bind fun _ =>
      bd (f_Code_append x0 x125 x129 M) fun x134 M132 =>
      h_Code_copy_6 n x0 x1 (x2 + 1) M132
def f_Code_copy (x0 : Nat) (x1 : Nat) (M : fm_M) : Option fm_M :=
  (ck x0 1).bind fun _ =>
  (f_Code_clear x0 M).bind fun M136 =>
  h_Code_copy_6 100000 x0 x1 0 M136
set_option maxHeartbeats 4000000 in
set_option maxRecDepth 100000 in
theorem w_Code_copy_39 {p : Program} {l : Launch} {e : Env} {s : State} {m : MethodId} {args : Array Value} {below : List Frame} {meth : Method} {c : Code} {G : fm_G} (C0 : fm_C p s m args meth c G (.code y_Code_copy b_Code_copy 3 none) "AllocationProfiler$Code" b_Code_copy 3 none) {M' : fm_M} : ∀ (n : Nat) (x0 : Nat) (x1 : Nat) (x2 : Int32) {M : fm_M} {H : Heap} {locs : List Loc}, kP G M H → kS G s H locs → ∀ {ls : Array Slot}, lv_has ls 3 [(0, .ref (G.2.2 + x0)), (1, .ref (G.2.2 + x1)), (2, .int x2)] → h_Code_copy_39 n x0 x1 x2 M = some M' → W p l e rm_Code_copy s m args below meth c H locs 0 0 (MQ below (fm_Q G 212 shF none M') args s 0 0 (fm_A G.2.2)) (F0 m 39 ls []) := by
  have hx := C0.1
  have hb := C0.2.1
  intro n
  induction n with
  | zero =>
    intro x0 x1 x2 M H locs hP hS ls hl h
    exact nomatch h
  | succ n ih =>
    intro x0 x1 x2 M H locs hP hS ls hl h
    have h : ((gi x1 1 6 M).bind fun x101 =>
      if x101 ≤ x2 then
        some M
      else
        (gr x1 1 2).bind fun q104 =>
        (ai q104 x2 M).bind fun x106 =>
        (gr x1 1 3).bind fun q108 =>
        (ai q108 x2 M).bind fun x110 =>
        (gr x1 1 4).bind fun q112 =>
        (ai q112 x2 M).bind fun x114 =>
        (ck x0 1).bind fun _ =>
        bd (f_Code_appendRange x0 x106 x110 x114 M) fun x119 M117 =>
        h_Code_copy_39 n x0 x1 (x2 + 1) M117) = some M' := h
    refine lv_iload_n hx hb d_Code_copy_39 rfl (lv_at hl 2 rfl) ?_
    refine lv_aload_n hx hb d_Code_copy_40 rfl (lv_at hl 1 rfl) ?_
    obtain ⟨x101, e102, h⟩ := ob h
    refine k_gi C0 F_Code_25 ik_1_6 hP e102 d_Code_copy_41 ?_
    refine lv_icmp_ge (tgt := 76) hx hb d_Code_copy_44 (by decide) (fun c103 => ?_) (fun c103 => ?_)
    · rw [if_pos c103] at h
      cases h
      exact r_vret C0 hP hS d_Code_copy_76
    · rw [if_neg c103] at h
      refine lv_aload_n hx hb d_Code_copy_47 rfl (lv_at hl 0 rfl) ?_
      refine lv_aload_n hx hb d_Code_copy_48 rfl (lv_at hl 1 rfl) ?_
      obtain ⟨q104, e105, h⟩ := ob h
      refine k_gr C0 F_Code_9 hP e105 d_Code_copy_49 ?_
      refine lv_iload_n hx hb d_Code_copy_52 rfl (lv_at hl 2 rfl) ?_
      obtain ⟨x106, e107, h⟩ := ob h
      refine k_ai C0 hP e107 d_Code_copy_53 ?_
      refine lv_aload_n hx hb d_Code_copy_54 rfl (lv_at hl 1 rfl) ?_
      obtain ⟨q108, e109, h⟩ := ob h
      refine k_gr C0 F_Code_15 hP e109 d_Code_copy_55 ?_
      refine lv_iload_n hx hb d_Code_copy_58 rfl (lv_at hl 2 rfl) ?_
      obtain ⟨x110, e111, h⟩ := ob h
      refine k_ai C0 hP e111 d_Code_copy_59 ?_
      refine lv_aload_n hx hb d_Code_copy_60 rfl (lv_at hl 1 rfl) ?_
      obtain ⟨q112, e113, h⟩ := ob h
      refine k_gr C0 F_Code_18 hP e113 d_Code_copy_61 ?_
      refine lv_iload_n hx hb d_Code_copy_64 rfl (lv_at hl 2 rfl) ?_
      obtain ⟨x114, e115, h⟩ := ob h
      refine k_ai C0 hP e115 d_Code_copy_65 ?_
      obtain ⟨_, e116, h⟩ := ob h
      obtain ⟨x119, M117, e118, h⟩ := ob2 h
      refine k_cV C0 L_Code_48 (As := [.int x106, .int x110, .int x114]) (c_Code_appendRange l G x0 x106 x110 x114 e118) ⟨rfl, rfl⟩ ⟨Nat.le_of_ble_eq_true rfl, Nat.le_of_ble_eq_true rfl⟩ hP hS (ck_of e116) ly_Code rfl hl.1 rfl (Nat.le_of_ble_eq_true rfl) d_Code_copy_66 ⟨Nat.zero_le _, Nat.zero_le _⟩ (fun H locs hP hS => ?_)
      refine lv_pop hx hb d_Code_copy_69 rfl ?_
      refine lv_iinc (v := (x2 + 1)) (lv' := [(2, .int (x2 + 1)), (0, .ref (G.2.2 + x0)), (1, .ref (G.2.2 + x1))]) hx hb d_Code_copy_70 hl (k := 2) rfl (congrArg (fun z => x2 + z) ic_1) (by decide) rfl (fun ls hl => ?_)
      refine lv_goto (tgt := 39) hx hb d_Code_copy_73 (by decide) ?_
      exact ih x0 x1 (x2 + 1) hP hS (lv_sub hl [1, 2, 0] rfl) h
set_option maxHeartbeats 4000000 in
set_option maxRecDepth 100000 in
theorem w_Code_copy_6 {p : Program} {l : Launch} {e : Env} {s : State} {m : MethodId} {args : Array Value} {below : List Frame} {meth : Method} {c : Code} {G : fm_G} (C0 : fm_C p s m args meth c G (.code y_Code_copy b_Code_copy 3 none) "AllocationProfiler$Code" b_Code_copy 3 none) {M' : fm_M} : ∀ (n : Nat) (x0 : Nat) (x1 : Nat) (x2 : Int32) {M : fm_M} {H : Heap} {locs : List Loc}, kP G M H → kS G s H locs → ∀ {ls : Array Slot}, lv_has ls 3 [(0, .ref (G.2.2 + x0)), (1, .ref (G.2.2 + x1)), (2, .int x2)] → h_Code_copy_6 n x0 x1 x2 M = some M' → W p l e rm_Code_copy s m args below meth c H locs 0 0 (MQ below (fm_Q G 212 shF none M') args s 0 0 (fm_A G.2.2)) (F0 m 6 ls []) := by
  have hx := C0.1
  have hb := C0.2.1
  intro n
  induction n with
  | zero =>
    intro x0 x1 x2 M H locs hP hS ls hl h
    exact nomatch h
  | succ n ih =>
    intro x0 x1 x2 M H locs hP hS ls hl h
    have h : ((gi x1 1 5 M).bind fun x120 =>
      if x120 ≤ x2 then
        h_Code_copy_39 100000 x0 x1 0 M
      else
        (gr x1 1 0).bind fun q123 =>
        (ai q123 x2 M).bind fun x125 =>
        (gr x1 1 1).bind fun q127 =>
        (ai q127 x2 M).bind fun x129 =>
        (ck x0 1).bind fun _ =>
        bd (f_Code_append x0 x125 x129 M) fun x134 M132 =>
        h_Code_copy_6 n x0 x1 (x2 + 1) M132) = some M' := h
    refine lv_iload_n hx hb d_Code_copy_6 rfl (lv_at hl 2 rfl) ?_
    refine lv_aload_n hx hb d_Code_copy_7 rfl (lv_at hl 1 rfl) ?_
    obtain ⟨x120, e121, h⟩ := ob h
    refine k_gi C0 F_Code_21 ik_1_5 hP e121 d_Code_copy_8 ?_
    refine lv_icmp_ge (tgt := 37) hx hb d_Code_copy_11 (by decide) (fun c122 => ?_) (fun c122 => ?_)
    · rw [if_pos c122] at h
      refine lv_iconst (v := 0) hx hb d_Code_copy_37 ic_0 ?_
      refine lv_istore_n (lv' := [(2, .int 0), (0, .ref (G.2.2 + x0)), (1, .ref (G.2.2 + x1))]) hx hb d_Code_copy_38 rfl hl (by decide) rfl (fun ls hl => ?_)
      exact w_Code_copy_39 C0 100000 x0 x1 0 hP hS (lv_sub hl [1, 2, 0] rfl) h
    · rw [if_neg c122] at h
      refine lv_aload_n hx hb d_Code_copy_14 rfl (lv_at hl 0 rfl) ?_
      refine lv_aload_n hx hb d_Code_copy_15 rfl (lv_at hl 1 rfl) ?_
      obtain ⟨q123, e124, h⟩ := ob h
      refine k_gr C0 F_Code_28 hP e124 d_Code_copy_16 ?_
      refine lv_iload_n hx hb d_Code_copy_19 rfl (lv_at hl 2 rfl) ?_
      obtain ⟨x125, e126, h⟩ := ob h
      refine k_ai C0 hP e126 d_Code_copy_20 ?_
      refine lv_aload_n hx hb d_Code_copy_21 rfl (lv_at hl 1 rfl) ?_
      obtain ⟨q127, e128, h⟩ := ob h
      refine k_gr C0 F_Code_31 hP e128 d_Code_copy_22 ?_
      refine lv_iload_n hx hb d_Code_copy_25 rfl (lv_at hl 2 rfl) ?_
      obtain ⟨x129, e130, h⟩ := ob h
      refine k_ai C0 hP e130 d_Code_copy_26 ?_
      obtain ⟨_, e131, h⟩ := ob h
      obtain ⟨x134, M132, e133, h⟩ := ob2 h
      refine k_cV C0 L_Code_44 (As := [.int x125, .int x129]) (c_Code_append l G x0 x125 x129 e133) ⟨rfl, rfl⟩ ⟨Nat.le_of_ble_eq_true rfl, Nat.le_of_ble_eq_true rfl⟩ hP hS (ck_of e131) ly_Code rfl hl.1 rfl (Nat.le_of_ble_eq_true rfl) d_Code_copy_27 ⟨Nat.zero_le _, Nat.zero_le _⟩ (fun H locs hP hS => ?_)
      refine lv_pop hx hb d_Code_copy_30 rfl ?_
      refine lv_iinc (v := (x2 + 1)) (lv' := [(2, .int (x2 + 1)), (0, .ref (G.2.2 + x0)), (1, .ref (G.2.2 + x1))]) hx hb d_Code_copy_31 hl (k := 2) rfl (congrArg (fun z => x2 + z) ic_1) (by decide) rfl (fun ls hl => ?_)
      refine lv_goto (tgt := 6) hx hb d_Code_copy_34 (by decide) ?_
      exact ih x0 x1 (x2 + 1) hP hS (lv_sub hl [1, 2, 0] rfl) h
set_option maxHeartbeats 4000000 in
set_option maxRecDepth 100000 in
theorem c_Code_copy (l : Launch) (G : fm_G) (x0 : Nat) (x1 : Nat) {M M' : fm_M} (h : f_Code_copy x0 x1 M = some M') : kMet l y_Code_copy b_Code_copy 3 none rm_Code_copy G M [.ref (G.2.2 + x0), .ref (G.2.2 + x1)] none M' := by
  refine r_met (by decide) rfl (Nat.le_of_ble_eq_true rfl) (fun p e s m args below meth c C0 hP ls hl => ?_)
  have hx := C0.1
  have hb := C0.2.1
  have hl : lv_has ls 3 [(0, .ref (G.2.2 + x0)), (1, .ref (G.2.2 + x1))] := hl
  have hS : va_S (fm_A G.2.2) s.heap s.heap [] := va_S.rf
  unfold f_Code_copy at h
  refine lv_aload_n hx hb d_Code_copy_0 rfl (lv_at hl 0 rfl) ?_
  obtain ⟨_, e135, h⟩ := ob h
  obtain ⟨M136, e137, h⟩ := ob h
  refine k_cVv C0 L_Code_41 (As := []) (c_Code_clear l G x0 e137) ⟨rfl, rfl⟩ ⟨Nat.le_of_ble_eq_true rfl, Nat.le_of_ble_eq_true rfl⟩ hP hS (ck_of e135) ly_Code rfl hl.1 rfl (Nat.le_of_ble_eq_true rfl) d_Code_copy_1 ⟨Nat.zero_le _, Nat.zero_le _⟩ (fun H locs hP hS => ?_)
  refine lv_iconst (v := 0) hx hb d_Code_copy_4 ic_0 ?_
  refine lv_istore_n (lv' := [(2, .int 0), (0, .ref (G.2.2 + x0)), (1, .ref (G.2.2 + x1))]) hx hb d_Code_copy_5 rfl hl (by decide) rfl (fun ls hl => ?_)
  exact w_Code_copy_6 C0 100000 x0 x1 0 hP hS (lv_sub hl [1, 2, 0] rfl) h
/-! AllocationProfiler$Code.operationAt -/
def rm_Code_operationAt : Room := { frames := 1, cells := 0, slots := 0, locals := 21 }
theorem d_Code_operationAt_0 : decode b_Code_operationAt 0 = .ok (.aload_n 0, 1) := by decide +kernel
theorem d_Code_operationAt_1 : decode b_Code_operationAt 1 = .ok (.iload_n 1, 1) := by decide +kernel
theorem d_Code_operationAt_2 : decode b_Code_operationAt 2 = .ok (.invokevirtual 52, 3) := by decide +kernel
theorem d_Code_operationAt_5 : decode b_Code_operationAt 5 = .ok (.ifCond .eq 12, 3) := by decide +kernel
theorem d_Code_operationAt_8 : decode b_Code_operationAt 8 = .ok (.aload_n 0, 1) := by decide +kernel
theorem d_Code_operationAt_9 : decode b_Code_operationAt 9 = .ok (.getfield 28, 3) := by decide +kernel
theorem d_Code_operationAt_12 : decode b_Code_operationAt 12 = .ok (.iload_n 1, 1) := by decide +kernel
theorem d_Code_operationAt_13 : decode b_Code_operationAt 13 = .ok (.iaload, 1) := by decide +kernel
theorem d_Code_operationAt_14 : decode b_Code_operationAt 14 = .ok (.goto 5, 3) := by decide +kernel
theorem d_Code_operationAt_17 : decode b_Code_operationAt 17 = .ok (.bipush 14, 2) := by decide +kernel
theorem d_Code_operationAt_19 : decode b_Code_operationAt 19 = .ok (.ireturn, 1) := by decide +kernel
def f_Code_operationAt (x0 : Nat) (x1 : Int32) (M : fm_M) : Option (Int32 × fm_M) :=
  (ck x0 1).bind fun _ =>
  bd (f_Code_has x0 x1 M) fun x104 M102 =>
  if x104 = 0 then
    some (14, M102)
  else
    (gr x0 1 0).bind fun q106 =>
    (ai q106 x1 M102).bind fun x108 =>
    some (x108, M102)
set_option maxHeartbeats 4000000 in
set_option maxRecDepth 100000 in
theorem c_Code_operationAt (l : Launch) (G : fm_G) (x0 : Nat) (x1 : Int32) {v : Int32} {M M' : fm_M} (h : f_Code_operationAt x0 x1 M = some (v, M')) : kMet l y_Code_operationAt b_Code_operationAt 2 (some .int) rm_Code_operationAt G M [.ref (G.2.2 + x0), .int x1] (some (.int v)) M' := by
  refine r_met (by decide) rfl (Nat.le_of_ble_eq_true rfl) (fun p e s m args below meth c C0 hP ls hl => ?_)
  have hx := C0.1
  have hb := C0.2.1
  have hl : lv_has ls 2 [(0, .ref (G.2.2 + x0)), (1, .int x1)] := hl
  have hS : va_S (fm_A G.2.2) s.heap s.heap [] := va_S.rf
  unfold f_Code_operationAt at h
  refine lv_aload_n hx hb d_Code_operationAt_0 rfl (lv_at hl 0 rfl) ?_
  refine lv_iload_n hx hb d_Code_operationAt_1 rfl (lv_at hl 1 rfl) ?_
  obtain ⟨_, e101, h⟩ := ob h
  obtain ⟨x104, M102, e103, h⟩ := ob2 h
  refine k_cV C0 L_Code_52 (As := [.int x1]) (c_Code_has l G x0 x1 e103) ⟨rfl, rfl⟩ ⟨Nat.le_of_ble_eq_true rfl, Nat.le_of_ble_eq_true rfl⟩ hP hS (ck_of e101) ly_Code rfl hl.1 rfl (Nat.le_of_ble_eq_true rfl) d_Code_operationAt_2 ⟨Nat.zero_le _, Nat.zero_le _⟩ (fun H locs hP hS => ?_)
  refine lv_if_eq (tgt := 17) hx hb d_Code_operationAt_5 (by decide) (fun c105 => ?_) (fun c105 => ?_)
  · rw [if_pos c105] at h
    refine lv_bipush (v := 14) hx hb d_Code_operationAt_17 bp_14 ?_
    cases h
    exact r_iret C0 hP hS d_Code_operationAt_19
  · rw [if_neg c105] at h
    refine lv_aload_n hx hb d_Code_operationAt_8 rfl (lv_at hl 0 rfl) ?_
    obtain ⟨q106, e107, h⟩ := ob h
    refine k_gr C0 F_Code_28 hP e107 d_Code_operationAt_9 ?_
    refine lv_iload_n hx hb d_Code_operationAt_12 rfl (lv_at hl 1 rfl) ?_
    obtain ⟨x108, e109, h⟩ := ob h
    refine k_ai C0 hP e109 d_Code_operationAt_13 ?_
    refine lv_goto (tgt := 19) hx hb d_Code_operationAt_14 (by decide) ?_
    cases h
    exact r_iret C0 hP hS d_Code_operationAt_19
/-! AllocationProfiler$Code.argumentAt -/
def rm_Code_argumentAt : Room := { frames := 1, cells := 0, slots := 0, locals := 21 }
theorem d_Code_argumentAt_0 : decode b_Code_argumentAt 0 = .ok (.aload_n 0, 1) := by decide +kernel
theorem d_Code_argumentAt_1 : decode b_Code_argumentAt 1 = .ok (.iload_n 1, 1) := by decide +kernel
theorem d_Code_argumentAt_2 : decode b_Code_argumentAt 2 = .ok (.invokevirtual 52, 3) := by decide +kernel
theorem d_Code_argumentAt_5 : decode b_Code_argumentAt 5 = .ok (.ifCond .eq 12, 3) := by decide +kernel
theorem d_Code_argumentAt_8 : decode b_Code_argumentAt 8 = .ok (.aload_n 0, 1) := by decide +kernel
theorem d_Code_argumentAt_9 : decode b_Code_argumentAt 9 = .ok (.getfield 31, 3) := by decide +kernel
theorem d_Code_argumentAt_12 : decode b_Code_argumentAt 12 = .ok (.iload_n 1, 1) := by decide +kernel
theorem d_Code_argumentAt_13 : decode b_Code_argumentAt 13 = .ok (.iaload, 1) := by decide +kernel
theorem d_Code_argumentAt_14 : decode b_Code_argumentAt 14 = .ok (.goto 4, 3) := by decide +kernel
theorem d_Code_argumentAt_17 : decode b_Code_argumentAt 17 = .ok (.iconst 0, 1) := by decide +kernel
theorem d_Code_argumentAt_18 : decode b_Code_argumentAt 18 = .ok (.ireturn, 1) := by decide +kernel
def f_Code_argumentAt (x0 : Nat) (x1 : Int32) (M : fm_M) : Option (Int32 × fm_M) :=
  (ck x0 1).bind fun _ =>
  bd (f_Code_has x0 x1 M) fun x104 M102 =>
  if x104 = 0 then
    some (0, M102)
  else
    (gr x0 1 1).bind fun q106 =>
    (ai q106 x1 M102).bind fun x108 =>
    some (x108, M102)
set_option maxHeartbeats 4000000 in
set_option maxRecDepth 100000 in
theorem c_Code_argumentAt (l : Launch) (G : fm_G) (x0 : Nat) (x1 : Int32) {v : Int32} {M M' : fm_M} (h : f_Code_argumentAt x0 x1 M = some (v, M')) : kMet l y_Code_argumentAt b_Code_argumentAt 2 (some .int) rm_Code_argumentAt G M [.ref (G.2.2 + x0), .int x1] (some (.int v)) M' := by
  refine r_met (by decide) rfl (Nat.le_of_ble_eq_true rfl) (fun p e s m args below meth c C0 hP ls hl => ?_)
  have hx := C0.1
  have hb := C0.2.1
  have hl : lv_has ls 2 [(0, .ref (G.2.2 + x0)), (1, .int x1)] := hl
  have hS : va_S (fm_A G.2.2) s.heap s.heap [] := va_S.rf
  unfold f_Code_argumentAt at h
  refine lv_aload_n hx hb d_Code_argumentAt_0 rfl (lv_at hl 0 rfl) ?_
  refine lv_iload_n hx hb d_Code_argumentAt_1 rfl (lv_at hl 1 rfl) ?_
  obtain ⟨_, e101, h⟩ := ob h
  obtain ⟨x104, M102, e103, h⟩ := ob2 h
  refine k_cV C0 L_Code_52 (As := [.int x1]) (c_Code_has l G x0 x1 e103) ⟨rfl, rfl⟩ ⟨Nat.le_of_ble_eq_true rfl, Nat.le_of_ble_eq_true rfl⟩ hP hS (ck_of e101) ly_Code rfl hl.1 rfl (Nat.le_of_ble_eq_true rfl) d_Code_argumentAt_2 ⟨Nat.zero_le _, Nat.zero_le _⟩ (fun H locs hP hS => ?_)
  refine lv_if_eq (tgt := 17) hx hb d_Code_argumentAt_5 (by decide) (fun c105 => ?_) (fun c105 => ?_)
  · rw [if_pos c105] at h
    refine lv_iconst (v := 0) hx hb d_Code_argumentAt_17 ic_0 ?_
    cases h
    exact r_iret C0 hP hS d_Code_argumentAt_18
  · rw [if_neg c105] at h
    refine lv_aload_n hx hb d_Code_argumentAt_8 rfl (lv_at hl 0 rfl) ?_
    obtain ⟨q106, e107, h⟩ := ob h
    refine k_gr C0 F_Code_31 hP e107 d_Code_argumentAt_9 ?_
    refine lv_iload_n hx hb d_Code_argumentAt_12 rfl (lv_at hl 1 rfl) ?_
    obtain ⟨x108, e109, h⟩ := ob h
    refine k_ai C0 hP e109 d_Code_argumentAt_13 ?_
    refine lv_goto (tgt := 18) hx hb d_Code_argumentAt_14 (by decide) ?_
    cases h
    exact r_iret C0 hP hS d_Code_argumentAt_18
/-! AllocationProfiler$Code.covers -/
def rm_Code_covers : Room := { frames := 0, cells := 0, slots := 0, locals := 0 }
theorem d_Code_covers_0 : decode b_Code_covers 0 = .ok (.iload_n 1, 1) := by decide +kernel
theorem d_Code_covers_1 : decode b_Code_covers 1 = .ok (.ifCond .lt 35, 3) := by decide +kernel
theorem d_Code_covers_4 : decode b_Code_covers 4 = .ok (.iload_n 1, 1) := by decide +kernel
theorem d_Code_covers_5 : decode b_Code_covers 5 = .ok (.aload_n 0, 1) := by decide +kernel
theorem d_Code_covers_6 : decode b_Code_covers 6 = .ok (.getfield 25, 3) := by decide +kernel
theorem d_Code_covers_9 : decode b_Code_covers 9 = .ok (.if_icmp .ge 27, 3) := by decide +kernel
theorem d_Code_covers_12 : decode b_Code_covers 12 = .ok (.iload_n 2, 1) := by decide +kernel
theorem d_Code_covers_13 : decode b_Code_covers 13 = .ok (.aload_n 0, 1) := by decide +kernel
theorem d_Code_covers_14 : decode b_Code_covers 14 = .ok (.getfield 9, 3) := by decide +kernel
theorem d_Code_covers_17 : decode b_Code_covers 17 = .ok (.iload_n 1, 1) := by decide +kernel
theorem d_Code_covers_18 : decode b_Code_covers 18 = .ok (.iaload, 1) := by decide +kernel
theorem d_Code_covers_19 : decode b_Code_covers 19 = .ok (.if_icmp .lt 17, 3) := by decide +kernel
theorem d_Code_covers_22 : decode b_Code_covers 22 = .ok (.iload_n 2, 1) := by decide +kernel
theorem d_Code_covers_23 : decode b_Code_covers 23 = .ok (.aload_n 0, 1) := by decide +kernel
theorem d_Code_covers_24 : decode b_Code_covers 24 = .ok (.getfield 15, 3) := by decide +kernel
theorem d_Code_covers_27 : decode b_Code_covers 27 = .ok (.iload_n 1, 1) := by decide +kernel
theorem d_Code_covers_28 : decode b_Code_covers 28 = .ok (.iaload, 1) := by decide +kernel
theorem d_Code_covers_29 : decode b_Code_covers 29 = .ok (.if_icmp .ge 7, 3) := by decide +kernel
theorem d_Code_covers_32 : decode b_Code_covers 32 = .ok (.iconst 1, 1) := by decide +kernel
theorem d_Code_covers_33 : decode b_Code_covers 33 = .ok (.goto 4, 3) := by decide +kernel
theorem d_Code_covers_36 : decode b_Code_covers 36 = .ok (.iconst 0, 1) := by decide +kernel
theorem d_Code_covers_37 : decode b_Code_covers 37 = .ok (.ireturn, 1) := by decide +kernel
def f_Code_covers (x0 : Nat) (x1 : Int32) (x2 : Int32) (M : fm_M) : Option (Int32 × fm_M) :=
  if x1 < 0 then
    some (0, M)
  else
    (gi x0 1 6 M).bind fun x102 =>
    if x102 ≤ x1 then
      some (0, M)
    else
      (gr x0 1 2).bind fun q105 =>
      (ai q105 x1 M).bind fun x107 =>
      if x2 < x107 then
        some (0, M)
      else
        (gr x0 1 3).bind fun q110 =>
        (ai q110 x1 M).bind fun x112 =>
        if x112 ≤ x2 then
          some (0, M)
        else
          some (1, M)
set_option maxHeartbeats 4000000 in
set_option maxRecDepth 100000 in
theorem c_Code_covers (l : Launch) (G : fm_G) (x0 : Nat) (x1 : Int32) (x2 : Int32) {v : Int32} {M M' : fm_M} (h : f_Code_covers x0 x1 x2 M = some (v, M')) : kMet l y_Code_covers b_Code_covers 3 (some .boolean) rm_Code_covers G M [.ref (G.2.2 + x0), .int x1, .int x2] (some (.int v)) M' := by
  refine r_met (by decide) rfl (Nat.le_of_ble_eq_true rfl) (fun p e s m args below meth c C0 hP ls hl => ?_)
  have hx := C0.1
  have hb := C0.2.1
  have hl : lv_has ls 3 [(0, .ref (G.2.2 + x0)), (1, .int x1), (2, .int x2)] := hl
  have hS : va_S (fm_A G.2.2) s.heap s.heap [] := va_S.rf
  unfold f_Code_covers at h
  refine lv_iload_n hx hb d_Code_covers_0 rfl (lv_at hl 1 rfl) ?_
  refine lv_if_lt (tgt := 36) hx hb d_Code_covers_1 (by decide) (fun c101 => ?_) (fun c101 => ?_)
  · rw [if_pos c101] at h
    refine lv_iconst (v := 0) hx hb d_Code_covers_36 ic_0 ?_
    cases h
    exact r_zret C0 hP hS (Or.inl rfl) d_Code_covers_37
  · rw [if_neg c101] at h
    refine lv_iload_n hx hb d_Code_covers_4 rfl (lv_at hl 1 rfl) ?_
    refine lv_aload_n hx hb d_Code_covers_5 rfl (lv_at hl 0 rfl) ?_
    obtain ⟨x102, e103, h⟩ := ob h
    refine k_gi C0 F_Code_25 ik_1_6 hP e103 d_Code_covers_6 ?_
    refine lv_icmp_ge (tgt := 36) hx hb d_Code_covers_9 (by decide) (fun c104 => ?_) (fun c104 => ?_)
    · rw [if_pos c104] at h
      refine lv_iconst (v := 0) hx hb d_Code_covers_36 ic_0 ?_
      cases h
      exact r_zret C0 hP hS (Or.inl rfl) d_Code_covers_37
    · rw [if_neg c104] at h
      refine lv_iload_n hx hb d_Code_covers_12 rfl (lv_at hl 2 rfl) ?_
      refine lv_aload_n hx hb d_Code_covers_13 rfl (lv_at hl 0 rfl) ?_
      obtain ⟨q105, e106, h⟩ := ob h
      refine k_gr C0 F_Code_9 hP e106 d_Code_covers_14 ?_
      refine lv_iload_n hx hb d_Code_covers_17 rfl (lv_at hl 1 rfl) ?_
      obtain ⟨x107, e108, h⟩ := ob h
      refine k_ai C0 hP e108 d_Code_covers_18 ?_
      refine lv_icmp_lt (tgt := 36) hx hb d_Code_covers_19 (by decide) (fun c109 => ?_) (fun c109 => ?_)
      · rw [if_pos c109] at h
        refine lv_iconst (v := 0) hx hb d_Code_covers_36 ic_0 ?_
        cases h
        exact r_zret C0 hP hS (Or.inl rfl) d_Code_covers_37
      · rw [if_neg c109] at h
        refine lv_iload_n hx hb d_Code_covers_22 rfl (lv_at hl 2 rfl) ?_
        refine lv_aload_n hx hb d_Code_covers_23 rfl (lv_at hl 0 rfl) ?_
        obtain ⟨q110, e111, h⟩ := ob h
        refine k_gr C0 F_Code_15 hP e111 d_Code_covers_24 ?_
        refine lv_iload_n hx hb d_Code_covers_27 rfl (lv_at hl 1 rfl) ?_
        obtain ⟨x112, e113, h⟩ := ob h
        refine k_ai C0 hP e113 d_Code_covers_28 ?_
        refine lv_icmp_ge (tgt := 36) hx hb d_Code_covers_29 (by decide) (fun c114 => ?_) (fun c114 => ?_)
        · rw [if_pos c114] at h
          refine lv_iconst (v := 0) hx hb d_Code_covers_36 ic_0 ?_
          cases h
          exact r_zret C0 hP hS (Or.inl rfl) d_Code_covers_37
        · rw [if_neg c114] at h
          refine lv_iconst (v := 1) hx hb d_Code_covers_32 ic_1 ?_
          refine lv_goto (tgt := 37) hx hb d_Code_covers_33 (by decide) ?_
          cases h
          exact r_zret C0 hP hS (Or.inr rfl) d_Code_covers_37
/-! AllocationProfiler$Code.handlerFor -/
def rm_Code_handlerFor : Room := { frames := 1, cells := 0, slots := 0, locals := 22 }
theorem d_Code_handlerFor_0 : decode b_Code_handlerFor 0 = .ok (.iconst 0, 1) := by decide +kernel
theorem d_Code_handlerFor_1 : decode b_Code_handlerFor 1 = .ok (.istore_n 2, 1) := by decide +kernel
theorem d_Code_handlerFor_2 : decode b_Code_handlerFor 2 = .ok (.iload_n 2, 1) := by decide +kernel
theorem d_Code_handlerFor_3 : decode b_Code_handlerFor 3 = .ok (.aload_n 0, 1) := by decide +kernel
theorem d_Code_handlerFor_4 : decode b_Code_handlerFor 4 = .ok (.getfield 25, 3) := by decide +kernel
theorem d_Code_handlerFor_7 : decode b_Code_handlerFor 7 = .ok (.if_icmp .ge 25, 3) := by decide +kernel
theorem d_Code_handlerFor_10 : decode b_Code_handlerFor 10 = .ok (.aload_n 0, 1) := by decide +kernel
theorem d_Code_handlerFor_11 : decode b_Code_handlerFor 11 = .ok (.iload_n 2, 1) := by decide +kernel
theorem d_Code_handlerFor_12 : decode b_Code_handlerFor 12 = .ok (.iload_n 1, 1) := by decide +kernel
theorem d_Code_handlerFor_13 : decode b_Code_handlerFor 13 = .ok (.invokevirtual 56, 3) := by decide +kernel
theorem d_Code_handlerFor_16 : decode b_Code_handlerFor 16 = .ok (.ifCond .eq 10, 3) := by decide +kernel
theorem d_Code_handlerFor_19 : decode b_Code_handlerFor 19 = .ok (.aload_n 0, 1) := by decide +kernel
theorem d_Code_handlerFor_20 : decode b_Code_handlerFor 20 = .ok (.getfield 18, 3) := by decide +kernel
theorem d_Code_handlerFor_23 : decode b_Code_handlerFor 23 = .ok (.iload_n 2, 1) := by decide +kernel
theorem d_Code_handlerFor_24 : decode b_Code_handlerFor 24 = .ok (.iaload, 1) := by decide +kernel
theorem d_Code_handlerFor_25 : decode b_Code_handlerFor 25 = .ok (.ireturn, 1) := by decide +kernel
theorem d_Code_handlerFor_26 : decode b_Code_handlerFor 26 = .ok (.iinc 2 1, 3) := by decide +kernel
theorem d_Code_handlerFor_29 : decode b_Code_handlerFor 29 = .ok (.goto (-27), 3) := by decide +kernel
theorem d_Code_handlerFor_32 : decode b_Code_handlerFor 32 = .ok (.iconst (-1), 1) := by decide +kernel
theorem d_Code_handlerFor_33 : decode b_Code_handlerFor 33 = .ok (.ireturn, 1) := by decide +kernel
def h_Code_handlerFor_2 : Nat → Nat → Int32 → Int32 → fm_M → Option (Int32 × fm_M)
  | 0, _, _, _, _ => none
  | n + 1, x0, x1, x2, M =>
    (gi x0 1 6 M).bind fun x101 =>
    if x101 ≤ x2 then
      some ((-1), M)
    else
      (ck x0 1).bind fun _ =>
      bd (f_Code_covers x0 x2 x1 M) fun x107 M105 =>
      if x107 = 0 then
        h_Code_handlerFor_2 n x0 x1 (x2 + 1) M105
      else
        (gr x0 1 4).bind fun q109 =>
        (ai q109 x2 M105).bind fun x111 =>
        some (x111, M105)
def f_Code_handlerFor (x0 : Nat) (x1 : Int32) (M : fm_M) : Option (Int32 × fm_M) :=
  h_Code_handlerFor_2 100000 x0 x1 0 M
set_option maxHeartbeats 4000000 in
set_option maxRecDepth 100000 in
theorem w_Code_handlerFor_2 {p : Program} {l : Launch} {e : Env} {s : State} {m : MethodId} {args : Array Value} {below : List Frame} {meth : Method} {c : Code} {G : fm_G} (C0 : fm_C p s m args meth c G (.code y_Code_handlerFor b_Code_handlerFor 3 (some .int)) "AllocationProfiler$Code" b_Code_handlerFor 3 (some .int)) {v : Int32} {M' : fm_M} : ∀ (n : Nat) (x0 : Nat) (x1 : Int32) (x2 : Int32) {M : fm_M} {H : Heap} {locs : List Loc}, kP G M H → kS G s H locs → ∀ {ls : Array Slot}, lv_has ls 3 [(0, .ref (G.2.2 + x0)), (1, .int x1), (2, .int x2)] → h_Code_handlerFor_2 n x0 x1 x2 M = some (v, M') → W p l e rm_Code_handlerFor s m args below meth c H locs 0 0 (MQ below (fm_Q G 212 shF (some (.int v)) M') args s 0 0 (fm_A G.2.2)) (F0 m 2 ls []) := by
  have hx := C0.1
  have hb := C0.2.1
  intro n
  induction n with
  | zero =>
    intro x0 x1 x2 M H locs hP hS ls hl h
    exact nomatch h
  | succ n ih =>
    intro x0 x1 x2 M H locs hP hS ls hl h
    have h : ((gi x0 1 6 M).bind fun x101 =>
      if x101 ≤ x2 then
        some ((-1), M)
      else
        (ck x0 1).bind fun _ =>
        bd (f_Code_covers x0 x2 x1 M) fun x107 M105 =>
        if x107 = 0 then
          h_Code_handlerFor_2 n x0 x1 (x2 + 1) M105
        else
          (gr x0 1 4).bind fun q109 =>
          (ai q109 x2 M105).bind fun x111 =>
          some (x111, M105)) = some (v, M') := h
    refine lv_iload_n hx hb d_Code_handlerFor_2 rfl (lv_at hl 2 rfl) ?_
    refine lv_aload_n hx hb d_Code_handlerFor_3 rfl (lv_at hl 0 rfl) ?_
    obtain ⟨x101, e102, h⟩ := ob h
    refine k_gi C0 F_Code_25 ik_1_6 hP e102 d_Code_handlerFor_4 ?_
    refine lv_icmp_ge (tgt := 32) hx hb d_Code_handlerFor_7 (by decide) (fun c103 => ?_) (fun c103 => ?_)
    · rw [if_pos c103] at h
      refine lv_iconst (v := (-1)) hx hb d_Code_handlerFor_32 ic_m1 ?_
      cases h
      exact r_iret C0 hP hS d_Code_handlerFor_33
    · rw [if_neg c103] at h
      refine lv_aload_n hx hb d_Code_handlerFor_10 rfl (lv_at hl 0 rfl) ?_
      refine lv_iload_n hx hb d_Code_handlerFor_11 rfl (lv_at hl 2 rfl) ?_
      refine lv_iload_n hx hb d_Code_handlerFor_12 rfl (lv_at hl 1 rfl) ?_
      obtain ⟨_, e104, h⟩ := ob h
      obtain ⟨x107, M105, e106, h⟩ := ob2 h
      refine k_cV C0 L_Code_56 (As := [.int x2, .int x1]) (c_Code_covers l G x0 x2 x1 e106) ⟨rfl, rfl⟩ ⟨Nat.le_of_ble_eq_true rfl, Nat.le_of_ble_eq_true rfl⟩ hP hS (ck_of e104) ly_Code rfl hl.1 rfl (Nat.le_of_ble_eq_true rfl) d_Code_handlerFor_13 ⟨Nat.zero_le _, Nat.zero_le _⟩ (fun H locs hP hS => ?_)
      refine lv_if_eq (tgt := 26) hx hb d_Code_handlerFor_16 (by decide) (fun c108 => ?_) (fun c108 => ?_)
      · rw [if_pos c108] at h
        refine lv_iinc (v := (x2 + 1)) (lv' := [(2, .int (x2 + 1)), (0, .ref (G.2.2 + x0)), (1, .int x1)]) hx hb d_Code_handlerFor_26 hl (k := 2) rfl (congrArg (fun z => x2 + z) ic_1) (by decide) rfl (fun ls hl => ?_)
        refine lv_goto (tgt := 2) hx hb d_Code_handlerFor_29 (by decide) ?_
        exact ih x0 x1 (x2 + 1) hP hS (lv_sub hl [1, 2, 0] rfl) h
      · rw [if_neg c108] at h
        refine lv_aload_n hx hb d_Code_handlerFor_19 rfl (lv_at hl 0 rfl) ?_
        obtain ⟨q109, e110, h⟩ := ob h
        refine k_gr C0 F_Code_18 hP e110 d_Code_handlerFor_20 ?_
        refine lv_iload_n hx hb d_Code_handlerFor_23 rfl (lv_at hl 2 rfl) ?_
        obtain ⟨x111, e112, h⟩ := ob h
        refine k_ai C0 hP e112 d_Code_handlerFor_24 ?_
        cases h
        exact r_iret C0 hP hS d_Code_handlerFor_25
set_option maxHeartbeats 4000000 in
set_option maxRecDepth 100000 in
theorem c_Code_handlerFor (l : Launch) (G : fm_G) (x0 : Nat) (x1 : Int32) {v : Int32} {M M' : fm_M} (h : f_Code_handlerFor x0 x1 M = some (v, M')) : kMet l y_Code_handlerFor b_Code_handlerFor 3 (some .int) rm_Code_handlerFor G M [.ref (G.2.2 + x0), .int x1] (some (.int v)) M' := by
  refine r_met (by decide) rfl (Nat.le_of_ble_eq_true rfl) (fun p e s m args below meth c C0 hP ls hl => ?_)
  have hx := C0.1
  have hb := C0.2.1
  have hl : lv_has ls 3 [(0, .ref (G.2.2 + x0)), (1, .int x1)] := hl
  have hS : va_S (fm_A G.2.2) s.heap s.heap [] := va_S.rf
  unfold f_Code_handlerFor at h
  refine lv_iconst (v := 0) hx hb d_Code_handlerFor_0 ic_0 ?_
  refine lv_istore_n (lv' := [(2, .int 0), (0, .ref (G.2.2 + x0)), (1, .int x1)]) hx hb d_Code_handlerFor_1 rfl hl (by decide) rfl (fun ls hl => ?_)
  exact w_Code_handlerFor_2 C0 100000 x0 x1 0 hP hS (lv_sub hl [1, 2, 0] rfl) h
/-! AllocationProfiler$Code.part -/
def rm_Code_part : Room := { frames := 2, cells := 0, slots := 0, locals := 42 }
theorem d_Code_part_0 : decode b_Code_part 0 = .ok (.iload_n 2, 1) := by decide +kernel
theorem d_Code_part_1 : decode b_Code_part 1 = .ok (.iconst 2, 1) := by decide +kernel
theorem d_Code_part_2 : decode b_Code_part 2 = .ok (.if_icmp .ge 21, 3) := by decide +kernel
theorem d_Code_part_5 : decode b_Code_part 5 = .ok (.iload_n 2, 1) := by decide +kernel
theorem d_Code_part_6 : decode b_Code_part 6 = .ok (.ifCond .ne 11, 3) := by decide +kernel
theorem d_Code_part_9 : decode b_Code_part 9 = .ok (.aload_n 0, 1) := by decide +kernel
theorem d_Code_part_10 : decode b_Code_part 10 = .ok (.iload_n 1, 1) := by decide +kernel
theorem d_Code_part_11 : decode b_Code_part 11 = .ok (.invokevirtual 60, 3) := by decide +kernel
theorem d_Code_part_14 : decode b_Code_part 14 = .ok (.goto 8, 3) := by decide +kernel
theorem d_Code_part_17 : decode b_Code_part 17 = .ok (.aload_n 0, 1) := by decide +kernel
theorem d_Code_part_18 : decode b_Code_part 18 = .ok (.iload_n 1, 1) := by decide +kernel
theorem d_Code_part_19 : decode b_Code_part 19 = .ok (.invokevirtual 64, 3) := by decide +kernel
theorem d_Code_part_22 : decode b_Code_part 22 = .ok (.ireturn, 1) := by decide +kernel
theorem d_Code_part_23 : decode b_Code_part 23 = .ok (.aload_n 0, 1) := by decide +kernel
theorem d_Code_part_24 : decode b_Code_part 24 = .ok (.iload_n 1, 1) := by decide +kernel
theorem d_Code_part_25 : decode b_Code_part 25 = .ok (.invokevirtual 67, 3) := by decide +kernel
theorem d_Code_part_28 : decode b_Code_part 28 = .ok (.ifCond .ne 5, 3) := by decide +kernel
theorem d_Code_part_31 : decode b_Code_part 31 = .ok (.iconst (-1), 1) := by decide +kernel
theorem d_Code_part_32 : decode b_Code_part 32 = .ok (.ireturn, 1) := by decide +kernel
theorem d_Code_part_33 : decode b_Code_part 33 = .ok (.iload_n 2, 1) := by decide +kernel
theorem d_Code_part_34 : decode b_Code_part 34 = .ok (.iconst 2, 1) := by decide +kernel
theorem d_Code_part_35 : decode b_Code_part 35 = .ok (.if_icmp .ne 12, 3) := by decide +kernel
theorem d_Code_part_38 : decode b_Code_part 38 = .ok (.aload_n 0, 1) := by decide +kernel
theorem d_Code_part_39 : decode b_Code_part 39 = .ok (.getfield 9, 3) := by decide +kernel
theorem d_Code_part_42 : decode b_Code_part 42 = .ok (.iload_n 1, 1) := by decide +kernel
theorem d_Code_part_43 : decode b_Code_part 43 = .ok (.iaload, 1) := by decide +kernel
theorem d_Code_part_44 : decode b_Code_part 44 = .ok (.goto 23, 3) := by decide +kernel
theorem d_Code_part_47 : decode b_Code_part 47 = .ok (.iload_n 2, 1) := by decide +kernel
theorem d_Code_part_48 : decode b_Code_part 48 = .ok (.iconst 3, 1) := by decide +kernel
theorem d_Code_part_49 : decode b_Code_part 49 = .ok (.if_icmp .ne 12, 3) := by decide +kernel
theorem d_Code_part_52 : decode b_Code_part 52 = .ok (.aload_n 0, 1) := by decide +kernel
theorem d_Code_part_53 : decode b_Code_part 53 = .ok (.getfield 15, 3) := by decide +kernel
theorem d_Code_part_56 : decode b_Code_part 56 = .ok (.iload_n 1, 1) := by decide +kernel
theorem d_Code_part_57 : decode b_Code_part 57 = .ok (.iaload, 1) := by decide +kernel
theorem d_Code_part_58 : decode b_Code_part 58 = .ok (.goto 9, 3) := by decide +kernel
theorem d_Code_part_61 : decode b_Code_part 61 = .ok (.aload_n 0, 1) := by decide +kernel
theorem d_Code_part_62 : decode b_Code_part 62 = .ok (.getfield 18, 3) := by decide +kernel
theorem d_Code_part_65 : decode b_Code_part 65 = .ok (.iload_n 1, 1) := by decide +kernel
theorem d_Code_part_66 : decode b_Code_part 66 = .ok (.iaload, 1) := by decide +kernel
theorem d_Code_part_67 : decode b_Code_part 67 = .ok (.ireturn, 1) := by decide +kernel
def f_Code_part (x0 : Nat) (x1 : Int32) (x2 : Int32) (M : fm_M) : Option (Int32 × fm_M) :=
  if 2 ≤ x2 then
    (ck x0 1).bind fun _ =>
    bd (f_Code_hasRange x0 x1 M) fun x105 M103 =>
    if x105 = 0 then
      some ((-1), M103)
    else
      if x2 = 2 then
        (gr x0 1 2).bind fun q117 =>
        (ai q117 x1 M103).bind fun x119 =>
        some (x119, M103)
      else
        if x2 = 3 then
          (gr x0 1 3).bind fun q113 =>
          (ai q113 x1 M103).bind fun x115 =>
          some (x115, M103)
        else
          (gr x0 1 4).bind fun q109 =>
          (ai q109 x1 M103).bind fun x111 =>
          some (x111, M103)
  else
    if x2 = 0 then
      (ck x0 1).bind fun _ =>
      bd (f_Code_operationAt x0 x1 M) fun x129 M127 =>
      some (x129, M127)
    else
      (ck x0 1).bind fun _ =>
      bd (f_Code_argumentAt x0 x1 M) fun x125 M123 =>
      some (x125, M123)
set_option maxHeartbeats 4000000 in
set_option maxRecDepth 100000 in
theorem c_Code_part (l : Launch) (G : fm_G) (x0 : Nat) (x1 : Int32) (x2 : Int32) {v : Int32} {M M' : fm_M} (h : f_Code_part x0 x1 x2 M = some (v, M')) : kMet l y_Code_part b_Code_part 3 (some .int) rm_Code_part G M [.ref (G.2.2 + x0), .int x1, .int x2] (some (.int v)) M' := by
  refine r_met (by decide) rfl (Nat.le_of_ble_eq_true rfl) (fun p e s m args below meth c C0 hP ls hl => ?_)
  have hx := C0.1
  have hb := C0.2.1
  have hl : lv_has ls 3 [(0, .ref (G.2.2 + x0)), (1, .int x1), (2, .int x2)] := hl
  have hS : va_S (fm_A G.2.2) s.heap s.heap [] := va_S.rf
  unfold f_Code_part at h
  refine lv_iload_n hx hb d_Code_part_0 rfl (lv_at hl 2 rfl) ?_
  refine lv_iconst (v := 2) hx hb d_Code_part_1 ic_2 ?_
  refine lv_icmp_ge (tgt := 23) hx hb d_Code_part_2 (by decide) (fun c101 => ?_) (fun c101 => ?_)
  · rw [if_pos c101] at h
    refine lv_aload_n hx hb d_Code_part_23 rfl (lv_at hl 0 rfl) ?_
    refine lv_iload_n hx hb d_Code_part_24 rfl (lv_at hl 1 rfl) ?_
    obtain ⟨_, e102, h⟩ := ob h
    obtain ⟨x105, M103, e104, h⟩ := ob2 h
    refine k_cV C0 L_Code_67 (As := [.int x1]) (c_Code_hasRange l G x0 x1 e104) ⟨rfl, rfl⟩ ⟨Nat.le_of_ble_eq_true rfl, Nat.le_of_ble_eq_true rfl⟩ hP hS (ck_of e102) ly_Code rfl hl.1 rfl (Nat.le_of_ble_eq_true rfl) d_Code_part_25 ⟨Nat.zero_le _, Nat.zero_le _⟩ (fun H locs hP hS => ?_)
    refine lv_if_ne (tgt := 33) hx hb d_Code_part_28 (by decide) (fun c106 => ?_) (fun c106 => ?_)
    · rw [if_neg c106] at h
      refine lv_iload_n hx hb d_Code_part_33 rfl (lv_at hl 2 rfl) ?_
      refine lv_iconst (v := 2) hx hb d_Code_part_34 ic_2 ?_
      refine lv_icmp_ne (tgt := 47) hx hb d_Code_part_35 (by decide) (fun c107 => ?_) (fun c107 => ?_)
      · rw [if_neg c107] at h
        refine lv_iload_n hx hb d_Code_part_47 rfl (lv_at hl 2 rfl) ?_
        refine lv_iconst (v := 3) hx hb d_Code_part_48 ic_3 ?_
        refine lv_icmp_ne (tgt := 61) hx hb d_Code_part_49 (by decide) (fun c108 => ?_) (fun c108 => ?_)
        · rw [if_neg c108] at h
          refine lv_aload_n hx hb d_Code_part_61 rfl (lv_at hl 0 rfl) ?_
          obtain ⟨q109, e110, h⟩ := ob h
          refine k_gr C0 F_Code_18 hP e110 d_Code_part_62 ?_
          refine lv_iload_n hx hb d_Code_part_65 rfl (lv_at hl 1 rfl) ?_
          obtain ⟨x111, e112, h⟩ := ob h
          refine k_ai C0 hP e112 d_Code_part_66 ?_
          cases h
          exact r_iret C0 hP hS d_Code_part_67
        · rw [if_pos c108] at h
          refine lv_aload_n hx hb d_Code_part_52 rfl (lv_at hl 0 rfl) ?_
          obtain ⟨q113, e114, h⟩ := ob h
          refine k_gr C0 F_Code_15 hP e114 d_Code_part_53 ?_
          refine lv_iload_n hx hb d_Code_part_56 rfl (lv_at hl 1 rfl) ?_
          obtain ⟨x115, e116, h⟩ := ob h
          refine k_ai C0 hP e116 d_Code_part_57 ?_
          refine lv_goto (tgt := 67) hx hb d_Code_part_58 (by decide) ?_
          cases h
          exact r_iret C0 hP hS d_Code_part_67
      · rw [if_pos c107] at h
        refine lv_aload_n hx hb d_Code_part_38 rfl (lv_at hl 0 rfl) ?_
        obtain ⟨q117, e118, h⟩ := ob h
        refine k_gr C0 F_Code_9 hP e118 d_Code_part_39 ?_
        refine lv_iload_n hx hb d_Code_part_42 rfl (lv_at hl 1 rfl) ?_
        obtain ⟨x119, e120, h⟩ := ob h
        refine k_ai C0 hP e120 d_Code_part_43 ?_
        refine lv_goto (tgt := 67) hx hb d_Code_part_44 (by decide) ?_
        cases h
        exact r_iret C0 hP hS d_Code_part_67
    · rw [if_pos c106] at h
      refine lv_iconst (v := (-1)) hx hb d_Code_part_31 ic_m1 ?_
      cases h
      exact r_iret C0 hP hS d_Code_part_32
  · rw [if_neg c101] at h
    refine lv_iload_n hx hb d_Code_part_5 rfl (lv_at hl 2 rfl) ?_
    refine lv_if_ne (tgt := 17) hx hb d_Code_part_6 (by decide) (fun c121 => ?_) (fun c121 => ?_)
    · rw [if_neg c121] at h
      refine lv_aload_n hx hb d_Code_part_17 rfl (lv_at hl 0 rfl) ?_
      refine lv_iload_n hx hb d_Code_part_18 rfl (lv_at hl 1 rfl) ?_
      obtain ⟨_, e122, h⟩ := ob h
      obtain ⟨x125, M123, e124, h⟩ := ob2 h
      refine k_cV C0 L_Code_64 (As := [.int x1]) (c_Code_argumentAt l G x0 x1 e124) ⟨rfl, rfl⟩ ⟨Nat.le_of_ble_eq_true rfl, Nat.le_of_ble_eq_true rfl⟩ hP hS (ck_of e122) ly_Code rfl hl.1 rfl (Nat.le_of_ble_eq_true rfl) d_Code_part_19 ⟨Nat.zero_le _, Nat.zero_le _⟩ (fun H locs hP hS => ?_)
      cases h
      exact r_iret C0 hP hS d_Code_part_22
    · rw [if_pos c121] at h
      refine lv_aload_n hx hb d_Code_part_9 rfl (lv_at hl 0 rfl) ?_
      refine lv_iload_n hx hb d_Code_part_10 rfl (lv_at hl 1 rfl) ?_
      obtain ⟨_, e126, h⟩ := ob h
      obtain ⟨x129, M127, e128, h⟩ := ob2 h
      refine k_cV C0 L_Code_60 (As := [.int x1]) (c_Code_operationAt l G x0 x1 e128) ⟨rfl, rfl⟩ ⟨Nat.le_of_ble_eq_true rfl, Nat.le_of_ble_eq_true rfl⟩ hP hS (ck_of e126) ly_Code rfl hl.1 rfl (Nat.le_of_ble_eq_true rfl) d_Code_part_11 ⟨Nat.zero_le _, Nat.zero_le _⟩ (fun H locs hP hS => ?_)
      refine lv_goto (tgt := 22) hx hb d_Code_part_14 (by decide) ?_
      cases h
      exact r_iret C0 hP hS d_Code_part_22
