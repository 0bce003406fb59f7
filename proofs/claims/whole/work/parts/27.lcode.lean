theorem L_Law_7 : fm_LV "AllocationProfilerLaw" 7 "AllocationProfiler" y_AP_type b_AP_type 6 (some .int) 5 := ⟨⟨(gT_in 325 (by decide +kernel) rfl), (gT_in 326 (by decide +kernel) rfl), (gT_in 327 (by decide +kernel) rfl), (gT_in 1 (by decide +kernel) rfl), (gT_in 328 (by decide +kernel) rfl)⟩, by decide +kernel⟩
theorem L_Law_17 : fm_LV "AllocationProfilerLaw" 17 "AllocationProfiler" y_AP_size b_AP_size 2 (some .int) 1 := ⟨⟨(gT_in 441 (by decide +kernel) rfl), (gT_in 442 (by decide +kernel) rfl), (gT_in 443 (by decide +kernel) rfl), (gT_in 1 (by decide +kernel) rfl), (gT_in 444 (by decide +kernel) rfl)⟩, by decide +kernel⟩
theorem L_Law_21 : fm_LV "AllocationProfilerLaw" 21 "AllocationProfiler" y_AP_draft b_AP_draft 3 (some .int) 2 := ⟨⟨(gT_in 453 (by decide +kernel) rfl), (gT_in 454 (by decide +kernel) rfl), (gT_in 455 (by decide +kernel) rfl), (gT_in 1 (by decide +kernel) rfl), (gT_in 456 (by decide +kernel) rfl)⟩, by decide +kernel⟩
theorem L_Law_25 : fm_LV "AllocationProfilerLaw" 25 "AllocationProfiler" y_AP_range b_AP_range 4 (some .int) 3 := ⟨⟨(gT_in 471 (by decide +kernel) rfl), (gT_in 472 (by decide +kernel) rfl), (gT_in 473 (by decide +kernel) rfl), (gT_in 1 (by decide +kernel) rfl), (gT_in 474 (by decide +kernel) rfl)⟩, by decide +kernel⟩
theorem L_Law_29 : fm_LV "AllocationProfilerLaw" 29 "AllocationProfiler" y_AP_define b_AP_define 1 (some .int) 0 := ⟨⟨(gT_in 488 (by decide +kernel) rfl), (gT_in 489 (by decide +kernel) rfl), (gT_in 490 (by decide +kernel) rfl), (gT_in 1 (by decide +kernel) rfl), (gT_in 491 (by decide +kernel) rfl)⟩, by decide +kernel⟩
theorem L_Law_33 : fm_LV "AllocationProfilerLaw" 33 "AllocationProfiler" y_AP_exclude b_AP_exclude 2 none 1 := ⟨⟨(gT_in 587 (by decide +kernel) rfl), (gT_in 588 (by decide +kernel) rfl), (gT_in 589 (by decide +kernel) rfl), (gT_in 1 (by decide +kernel) rfl), (gT_in 590 (by decide +kernel) rfl)⟩, by decide +kernel⟩
theorem L_Law_37 : fm_LV "AllocationProfilerLaw" 37 "AllocationProfiler" y_AP_weave b_AP_weave 4 (some .int) 1 := ⟨⟨(gT_in 600 (by decide +kernel) rfl), (gT_in 601 (by decide +kernel) rfl), (gT_in 602 (by decide +kernel) rfl), (gT_in 1 (by decide +kernel) rfl), (gT_in 603 (by decide +kernel) rfl)⟩, by decide +kernel⟩
theorem L_Law_40 : fm_LV "AllocationProfilerLaw" 40 "AllocationProfiler" y_AP_length b_AP_length 3 (some .int) 2 := ⟨⟨(gT_in 634 (by decide +kernel) rfl), (gT_in 635 (by decide +kernel) rfl), (gT_in 636 (by decide +kernel) rfl), (gT_in 1 (by decide +kernel) rfl), (gT_in 637 (by decide +kernel) rfl)⟩, by decide +kernel⟩
theorem L_Law_44 : fm_LV "AllocationProfilerLaw" 44 "AllocationProfiler" y_AP_code b_AP_code 5 (some .int) 3 := ⟨⟨(gT_in 642 (by decide +kernel) rfl), (gT_in 643 (by decide +kernel) rfl), (gT_in 644 (by decide +kernel) rfl), (gT_in 1 (by decide +kernel) rfl), (gT_in 645 (by decide +kernel) rfl)⟩, by decide +kernel⟩
theorem L_Law_49 : fm_LV "AllocationProfilerLaw" 49 "AllocationProfiler" y_AP_site b_AP_site 4 (some .int) 2 := ⟨⟨(gT_in 679 (by decide +kernel) rfl), (gT_in 680 (by decide +kernel) rfl), (gT_in 681 (by decide +kernel) rfl), (gT_in 1 (by decide +kernel) rfl), (gT_in 682 (by decide +kernel) rfl)⟩, by decide +kernel⟩
theorem L_Law_54 : fm_LV "AllocationProfilerLaw" 54 "AllocationProfiler" y_AP_start b_AP_start 4 none 3 := ⟨⟨(gT_in 703 (by decide +kernel) rfl), (gT_in 704 (by decide +kernel) rfl), (gT_in 705 (by decide +kernel) rfl), (gT_in 1 (by decide +kernel) rfl), (gT_in 706 (by decide +kernel) rfl)⟩, by decide +kernel⟩
theorem L_Law_58 : fm_LV "AllocationProfilerLaw" 58 "AllocationProfiler" y_AP_run b_AP_run 3 (some .int) 1 := ⟨⟨(gT_in 732 (by decide +kernel) rfl), (gT_in 733 (by decide +kernel) rfl), (gT_in 734 (by decide +kernel) rfl), (gT_in 1 (by decide +kernel) rfl), (gT_in 735 (by decide +kernel) rfl)⟩, by decide +kernel⟩
theorem L_Law_61 : fm_LV "AllocationProfilerLaw" 61 "AllocationProfiler" y_AP_state b_AP_state 2 (some .int) 1 := ⟨⟨(gT_in 867 (by decide +kernel) rfl), (gT_in 868 (by decide +kernel) rfl), (gT_in 869 (by decide +kernel) rfl), (gT_in 1 (by decide +kernel) rfl), (gT_in 870 (by decide +kernel) rfl)⟩, by decide +kernel⟩
theorem L_Law_64 : fm_LV "AllocationProfilerLaw" 64 "AllocationProfiler" y_AP_result b_AP_result 3 (some .int) 1 := ⟨⟨(gT_in 879 (by decide +kernel) rfl), (gT_in 880 (by decide +kernel) rfl), (gT_in 881 (by decide +kernel) rfl), (gT_in 1 (by decide +kernel) rfl), (gT_in 882 (by decide +kernel) rfl)⟩, by decide +kernel⟩
theorem L_Law_67 : fm_LV "AllocationProfilerLaw" 67 "AllocationProfiler" y_AP_object b_AP_object 2 (some .int) 1 := ⟨⟨(gT_in 887 (by decide +kernel) rfl), (gT_in 888 (by decide +kernel) rfl), (gT_in 889 (by decide +kernel) rfl), (gT_in 1 (by decide +kernel) rfl), (gT_in 890 (by decide +kernel) rfl)⟩, by decide +kernel⟩
theorem L_Law_70 : fm_LV "AllocationProfilerLaw" 70 "AllocationProfiler" y_AP_count b_AP_count 4 (some .long) 3 := ⟨⟨(gT_in 899 (by decide +kernel) rfl), (gT_in 900 (by decide +kernel) rfl), (gT_in 901 (by decide +kernel) rfl), (gT_in 1 (by decide +kernel) rfl), (gT_in 902 (by decide +kernel) rfl)⟩, by decide +kernel⟩
theorem L_Law_74 : fm_LV "AllocationProfilerLaw" 74 "AllocationProfiler" y_AP_entry b_AP_entry 3 (some .int) 2 := ⟨⟨(gT_in 920 (by decide +kernel) rfl), (gT_in 921 (by decide +kernel) rfl), (gT_in 922 (by decide +kernel) rfl), (gT_in 1 (by decide +kernel) rfl), (gT_in 923 (by decide +kernel) rfl)⟩, by decide +kernel⟩
theorem L_Law_77 : fm_LV "AllocationProfilerLaw" 77 "AllocationProfiler" y_AP_rate b_AP_rate 2 (some .float) 1 := ⟨⟨(gT_in 928 (by decide +kernel) rfl), (gT_in 929 (by decide +kernel) rfl), (gT_in 930 (by decide +kernel) rfl), (gT_in 1 (by decide +kernel) rfl), (gT_in 931 (by decide +kernel) rfl)⟩, by decide +kernel⟩
theorem L_Law_81 : fm_LV "AllocationProfilerLaw" 81 "AllocationProfiler" y_AP_share b_AP_share 2 (some .float) 1 := ⟨⟨(gT_in 935 (by decide +kernel) rfl), (gT_in 936 (by decide +kernel) rfl), (gT_in 937 (by decide +kernel) rfl), (gT_in 1 (by decide +kernel) rfl), (gT_in 938 (by decide +kernel) rfl)⟩, by decide +kernel⟩
theorem L_Law_84 : fm_LV "AllocationProfilerLaw" 84 "AllocationProfiler" y_AP_estimate b_AP_estimate 2 (some .double) 1 := ⟨⟨(gT_in 951 (by decide +kernel) rfl), (gT_in 952 (by decide +kernel) rfl), (gT_in 953 (by decide +kernel) rfl), (gT_in 1 (by decide +kernel) rfl), (gT_in 954 (by decide +kernel) rfl)⟩, by decide +kernel⟩
theorem L_Law_88 : fm_LV "AllocationProfilerLaw" 88 "AllocationProfiler" y_AP_rounded b_AP_rounded 2 (some .long) 1 := ⟨⟨(gT_in 966 (by decide +kernel) rfl), (gT_in 967 (by decide +kernel) rfl), (gT_in 968 (by decide +kernel) rfl), (gT_in 1 (by decide +kernel) rfl), (gT_in 969 (by decide +kernel) rfl)⟩, by decide +kernel⟩
/-! AllocationProfilerLaw.type -/
theorem d_Law_type_0 : decode b_Law_type 0 = .ok (.aload 6, 2) := by decide +kernel
theorem d_Law_type_2 : decode b_Law_type 2 = .ok (.iconst 0, 1) := by decide +kernel
theorem d_Law_type_3 : decode b_Law_type 3 = .ok (.aload_n 0, 1) := by decide +kernel
theorem d_Law_type_4 : decode b_Law_type 4 = .ok (.iload_n 1, 1) := by decide +kernel
theorem d_Law_type_5 : decode b_Law_type 5 = .ok (.iload_n 2, 1) := by decide +kernel
theorem d_Law_type_6 : decode b_Law_type 6 = .ok (.iload_n 3, 1) := by decide +kernel
theorem d_Law_type_7 : decode b_Law_type 7 = .ok (.iload 4, 2) := by decide +kernel
theorem d_Law_type_9 : decode b_Law_type 9 = .ok (.iload 5, 2) := by decide +kernel
theorem d_Law_type_11 : decode b_Law_type 11 = .ok (.invokevirtual 7, 3) := by decide +kernel
theorem d_Law_type_14 : decode b_Law_type 14 = .ok (.i2l, 1) := by decide +kernel
theorem d_Law_type_15 : decode b_Law_type 15 = .ok (.lastore, 1) := by decide +kernel
theorem d_Law_type_16 : decode b_Law_type 16 = .ok (.goto 11, 3) := by decide +kernel
theorem d_Law_type_19 : decode b_Law_type 19 = .ok (.astore 7, 2) := by decide +kernel
theorem d_Law_type_21 : decode b_Law_type 21 = .ok (.iconst 1, 1) := by decide +kernel
theorem d_Law_type_22 : decode b_Law_type 22 = .ok (.ireturn, 1) := by decide +kernel
theorem d_Law_type_23 : decode b_Law_type 23 = .ok (.astore 7, 2) := by decide +kernel
theorem d_Law_type_25 : decode b_Law_type 25 = .ok (.iconst 2, 1) := by decide +kernel
theorem d_Law_type_26 : decode b_Law_type 26 = .ok (.ireturn, 1) := by decide +kernel
theorem d_Law_type_27 : decode b_Law_type 27 = .ok (.iconst 0, 1) := by decide +kernel
theorem d_Law_type_28 : decode b_Law_type 28 = .ok (.ireturn, 1) := by decide +kernel
def hh_Law_type : List (Nat × Nat × Nat × Nat) := [(0, 16, 19, 13), (0, 16, 23, 15)]
def f_Law_type (x0 : Nat) (x1 : Int32) (x2 : Int32) (x3 : Int32) (x4 : Int32) (x5 : Int32) (x6 : Nat) (M : fm_M) : Option (Int32 × fm_M) :=
  (ck x0 9).bind fun _ =>
  lt (f_AP_type x0 x1 x2 x3 x4 x5 M) (fun x104 M103 =>
    (sj x6 0 x104.toInt64 M103).bind fun M105 =>
    some (0, M105)) (fun E9 M103 =>
    if E9 = "java/lang/IllegalArgumentException" then
      some (1, M103)
    else
    if E9 = "java/lang/IllegalStateException" then
      some (2, M103)
    else
      none)
set_option maxHeartbeats 4000000 in
set_option maxRecDepth 100000 in
theorem c_Law_type (l : Launch) (hst : l.stackTraces = false) (G : fm_G) (x0 : Nat) (x1 : Int32) (x2 : Int32) (x3 : Int32) (x4 : Int32) (x5 : Int32) (x6 : Nat) {v : Int32} {M M' : fm_M} (h : f_Law_type x0 x1 x2 x3 x4 x5 x6 M = some (v, M')) : lMet l y_Law_type b_Law_type 8 (some .int) [(0, 16, 19, 13), (0, 16, 23, 15)] 7 115 G M [.ref (G.2.2 + x0), .int x1, .int x2, .int x3, .int x4, .int x5, .ref (G.2.2 + x6)] (some (.int v)) M' := by
  refine l_met hst (by decide) rfl (Nat.le_of_ble_eq_true rfl) (fun p e s m args below meth c C0 C1 hP ls hl => ?_)
  have hx := C0.1
  have hb := C0.2.1
  have hl : lv_has ls 8 [(0, .ref (G.2.2 + x0)), (1, .int x1), (2, .int x2), (3, .int x3), (4, .int x4), (5, .int x5), (6, .ref (G.2.2 + x6))] := hl
  have hS : va_S (fm_A G.2.2) s.heap s.heap [] := va_S.rf
  unfold f_Law_type at h
  refine lv_aload hx hb d_Law_type_0 (lv_at hl 6 rfl) ?_
  refine lv_iconst (v := 0) hx hb d_Law_type_2 ic_0 ?_
  refine lv_aload_n hx hb d_Law_type_3 rfl (lv_at hl 0 rfl) ?_
  refine lv_iload_n hx hb d_Law_type_4 rfl (lv_at hl 1 rfl) ?_
  refine lv_iload_n hx hb d_Law_type_5 rfl (lv_at hl 2 rfl) ?_
  refine lv_iload_n hx hb d_Law_type_6 rfl (lv_at hl 3 rfl) ?_
  refine lv_iload hx hb d_Law_type_7 (lv_at hl 4 rfl) ?_
  refine lv_iload hx hb d_Law_type_9 (lv_at hl 5 rfl) ?_
  obtain ⟨_, e101, h⟩ := ob h
  rcases ob4 h with ⟨x104, M103, e102, h⟩ | ⟨E9, M103, e102, h⟩
  · refine x_back1 (x_runV (o := .inl (some (.int x104))) C0 C1.2.1 L_Law_7 (As := [.int x1, .int x2, .int x3, .int x4, .int x5]) (c_AP_type (v := .inl x104) l C1.1 G x0 x1 x2 x3 x4 x5 e102) ⟨Nat.le_of_ble_eq_true rfl, Nat.le_of_ble_eq_true rfl⟩ hP hS (ck_of e101) ly_AP rfl hl.1 rfl (Nat.le_of_ble_eq_true rfl) d_Law_type_11 ⟨Nat.zero_le _, Nat.zero_le _⟩) hS (fun H locs hP hS => ?_)
    refine lv_i2l hx hb d_Law_type_14 rfl ?_
    obtain ⟨M105, e106, h⟩ := ob h
    refine k_sj C0 hP hS e106 d_Law_type_15 (fun H locs hP hS => ?_)
    refine lv_goto (tgt := 27) hx hb d_Law_type_16 (by decide) ?_
    refine lv_iconst (v := 0) hx hb d_Law_type_27 ic_0 ?_
    refine W.widen (k := 1) (n := 6) (Nat.zero_le _) (Nat.zero_le _) ?_
    cases h
    exact r_iret C0 hP hS d_Law_type_28
  · by_cases c107 : E9 = "java/lang/IllegalArgumentException"
    · rw [if_pos c107] at h
      subst c107
      refine x_thrown (x_runV (o := .inr _) C0 C1.2.1 L_Law_7 (As := [.int x1, .int x2, .int x3, .int x4, .int x5]) (c_AP_type (v := .inr _) l C1.1 G x0 x1 x2 x3 x4 x5 e102) ⟨Nat.le_of_ble_eq_true rfl, Nat.le_of_ble_eq_true rfl⟩ hP hS (ck_of e101) ly_AP rfl hl.1 rfl (Nat.le_of_ble_eq_true rfl) d_Law_type_11 ⟨Nat.le_refl 1, Nat.le_refl 6⟩) hS (fun H locs q9 ce hP hS g1 g2 g3 => ?_)
      refine l_c1 C0 C1 (by decide) (by decide) (gT_in 323 (by decide +kernel) rfl) (by decide) g1 g2 g3 ?_
      refine lv_astore (lv' := [(7, .ref q9), (0, .ref (G.2.2 + x0)), (1, .int x1), (2, .int x2), (3, .int x3), (4, .int x4), (5, .int x5), (6, .ref (G.2.2 + x6))]) hx hb d_Law_type_19 hl (by decide) rfl (fun ls hl => ?_)
      refine lv_iconst (v := 1) hx hb d_Law_type_21 ic_1 ?_
      cases h
      exact r_iret C0 hP hS d_Law_type_22
    rw [if_neg c107] at h
    by_cases c108 : E9 = "java/lang/IllegalStateException"
    · rw [if_pos c108] at h
      subst c108
      refine x_thrown (x_runV (o := .inr _) C0 C1.2.1 L_Law_7 (As := [.int x1, .int x2, .int x3, .int x4, .int x5]) (c_AP_type (v := .inr _) l C1.1 G x0 x1 x2 x3 x4 x5 e102) ⟨Nat.le_of_ble_eq_true rfl, Nat.le_of_ble_eq_true rfl⟩ hP hS (ck_of e101) ly_AP rfl hl.1 rfl (Nat.le_of_ble_eq_true rfl) d_Law_type_11 ⟨Nat.le_refl 1, Nat.le_refl 6⟩) hS (fun H locs q9 ce hP hS g1 g2 g3 => ?_)
      refine l_c2 (E1 := "java/lang/IllegalArgumentException") C0 C1 (by decide) (by decide) (gT_in 323 (by decide +kernel) rfl) (by decide) (by decide) (by decide) (gT_in 324 (by decide +kernel) rfl) (by decide) g1 g2 g3 ?_
      refine lv_astore (lv' := [(7, .ref q9), (0, .ref (G.2.2 + x0)), (1, .int x1), (2, .int x2), (3, .int x3), (4, .int x4), (5, .int x5), (6, .ref (G.2.2 + x6))]) hx hb d_Law_type_23 hl (by decide) rfl (fun ls hl => ?_)
      refine lv_iconst (v := 2) hx hb d_Law_type_25 ic_2 ?_
      cases h
      exact r_iret C0 hP hS d_Law_type_26
    rw [if_neg c108] at h
    cases h
/-! AllocationProfilerLaw.size -/
theorem d_Law_size_0 : decode b_Law_size 0 = .ok (.aload_n 2, 1) := by decide +kernel
theorem d_Law_size_1 : decode b_Law_size 1 = .ok (.iconst 0, 1) := by decide +kernel
theorem d_Law_size_2 : decode b_Law_size 2 = .ok (.aload_n 0, 1) := by decide +kernel
theorem d_Law_size_3 : decode b_Law_size 3 = .ok (.iload_n 1, 1) := by decide +kernel
theorem d_Law_size_4 : decode b_Law_size 4 = .ok (.invokevirtual 17, 3) := by decide +kernel
theorem d_Law_size_7 : decode b_Law_size 7 = .ok (.i2l, 1) := by decide +kernel
theorem d_Law_size_8 : decode b_Law_size 8 = .ok (.lastore, 1) := by decide +kernel
theorem d_Law_size_9 : decode b_Law_size 9 = .ok (.goto 6, 3) := by decide +kernel
theorem d_Law_size_12 : decode b_Law_size 12 = .ok (.astore_n 3, 1) := by decide +kernel
theorem d_Law_size_13 : decode b_Law_size 13 = .ok (.iconst 1, 1) := by decide +kernel
theorem d_Law_size_14 : decode b_Law_size 14 = .ok (.ireturn, 1) := by decide +kernel
theorem d_Law_size_15 : decode b_Law_size 15 = .ok (.iconst 0, 1) := by decide +kernel
theorem d_Law_size_16 : decode b_Law_size 16 = .ok (.ireturn, 1) := by decide +kernel
def hh_Law_size : List (Nat × Nat × Nat × Nat) := [(0, 9, 12, 13)]
def f_Law_size (x0 : Nat) (x1 : Int32) (x2 : Nat) (M : fm_M) : Option (Int32 × fm_M) :=
  (ck x0 9).bind fun _ =>
  lt (f_AP_size x0 x1 M) (fun x104 M103 =>
    (sj x2 0 x104.toInt64 M103).bind fun M105 =>
    some (0, M105)) (fun E9 M103 =>
    if E9 = "java/lang/IllegalArgumentException" then
      some (1, M103)
    else
      none)
set_option maxHeartbeats 4000000 in
set_option maxRecDepth 100000 in
theorem c_Law_size (l : Launch) (hst : l.stackTraces = false) (G : fm_G) (x0 : Nat) (x1 : Int32) (x2 : Nat) {v : Int32} {M M' : fm_M} (h : f_Law_size x0 x1 x2 M = some (v, M')) : lMet l y_Law_size b_Law_size 4 (some .int) [(0, 9, 12, 13)] 7 111 G M [.ref (G.2.2 + x0), .int x1, .ref (G.2.2 + x2)] (some (.int v)) M' := by
  refine l_met hst (by decide) rfl (Nat.le_of_ble_eq_true rfl) (fun p e s m args below meth c C0 C1 hP ls hl => ?_)
  have hx := C0.1
  have hb := C0.2.1
  have hl : lv_has ls 4 [(0, .ref (G.2.2 + x0)), (1, .int x1), (2, .ref (G.2.2 + x2))] := hl
  have hS : va_S (fm_A G.2.2) s.heap s.heap [] := va_S.rf
  unfold f_Law_size at h
  refine lv_aload_n hx hb d_Law_size_0 rfl (lv_at hl 2 rfl) ?_
  refine lv_iconst (v := 0) hx hb d_Law_size_1 ic_0 ?_
  refine lv_aload_n hx hb d_Law_size_2 rfl (lv_at hl 0 rfl) ?_
  refine lv_iload_n hx hb d_Law_size_3 rfl (lv_at hl 1 rfl) ?_
  obtain ⟨_, e101, h⟩ := ob h
  rcases ob4 h with ⟨x104, M103, e102, h⟩ | ⟨E9, M103, e102, h⟩
  · refine x_back1 (x_runV (o := .inl (some (.int x104))) C0 C1.2.1 L_Law_17 (As := [.int x1]) (c_AP_size (v := .inl x104) l C1.1 G x0 x1 e102) ⟨Nat.le_of_ble_eq_true rfl, Nat.le_of_ble_eq_true rfl⟩ hP hS (ck_of e101) ly_AP rfl hl.1 rfl (Nat.le_of_ble_eq_true rfl) d_Law_size_4 ⟨Nat.zero_le _, Nat.zero_le _⟩) hS (fun H locs hP hS => ?_)
    refine lv_i2l hx hb d_Law_size_7 rfl ?_
    obtain ⟨M105, e106, h⟩ := ob h
    refine k_sj C0 hP hS e106 d_Law_size_8 (fun H locs hP hS => ?_)
    refine lv_goto (tgt := 15) hx hb d_Law_size_9 (by decide) ?_
    refine lv_iconst (v := 0) hx hb d_Law_size_15 ic_0 ?_
    refine W.widen (k := 1) (n := 6) (Nat.zero_le _) (Nat.zero_le _) ?_
    cases h
    exact r_iret C0 hP hS d_Law_size_16
  · by_cases c107 : E9 = "java/lang/IllegalArgumentException"
    · rw [if_pos c107] at h
      subst c107
      refine x_thrown (x_runV (o := .inr _) C0 C1.2.1 L_Law_17 (As := [.int x1]) (c_AP_size (v := .inr _) l C1.1 G x0 x1 e102) ⟨Nat.le_of_ble_eq_true rfl, Nat.le_of_ble_eq_true rfl⟩ hP hS (ck_of e101) ly_AP rfl hl.1 rfl (Nat.le_of_ble_eq_true rfl) d_Law_size_4 ⟨Nat.le_refl 1, Nat.le_refl 6⟩) hS (fun H locs q9 ce hP hS g1 g2 g3 => ?_)
      refine l_c1 C0 C1 (by decide) (by decide) (gT_in 323 (by decide +kernel) rfl) (by decide) g1 g2 g3 ?_
      refine lv_astore_n (lv' := [(3, .ref q9), (0, .ref (G.2.2 + x0)), (1, .int x1), (2, .ref (G.2.2 + x2))]) hx hb d_Law_size_12 rfl hl (by decide) rfl (fun ls hl => ?_)
      refine lv_iconst (v := 1) hx hb d_Law_size_13 ic_1 ?_
      cases h
      exact r_iret C0 hP hS d_Law_size_14
    rw [if_neg c107] at h
    cases h
/-! AllocationProfilerLaw.draft -/
theorem d_Law_draft_0 : decode b_Law_draft 0 = .ok (.aload_n 3, 1) := by decide +kernel
theorem d_Law_draft_1 : decode b_Law_draft 1 = .ok (.iconst 0, 1) := by decide +kernel
theorem d_Law_draft_2 : decode b_Law_draft 2 = .ok (.aload_n 0, 1) := by decide +kernel
theorem d_Law_draft_3 : decode b_Law_draft 3 = .ok (.iload_n 1, 1) := by decide +kernel
theorem d_Law_draft_4 : decode b_Law_draft 4 = .ok (.iload_n 2, 1) := by decide +kernel
theorem d_Law_draft_5 : decode b_Law_draft 5 = .ok (.invokevirtual 21, 3) := by decide +kernel
theorem d_Law_draft_8 : decode b_Law_draft 8 = .ok (.i2l, 1) := by decide +kernel
theorem d_Law_draft_9 : decode b_Law_draft 9 = .ok (.lastore, 1) := by decide +kernel
theorem d_Law_draft_10 : decode b_Law_draft 10 = .ok (.goto 11, 3) := by decide +kernel
theorem d_Law_draft_13 : decode b_Law_draft 13 = .ok (.astore 4, 2) := by decide +kernel
theorem d_Law_draft_15 : decode b_Law_draft 15 = .ok (.iconst 1, 1) := by decide +kernel
theorem d_Law_draft_16 : decode b_Law_draft 16 = .ok (.ireturn, 1) := by decide +kernel
theorem d_Law_draft_17 : decode b_Law_draft 17 = .ok (.astore 4, 2) := by decide +kernel
theorem d_Law_draft_19 : decode b_Law_draft 19 = .ok (.iconst 2, 1) := by decide +kernel
theorem d_Law_draft_20 : decode b_Law_draft 20 = .ok (.ireturn, 1) := by decide +kernel
theorem d_Law_draft_21 : decode b_Law_draft 21 = .ok (.iconst 0, 1) := by decide +kernel
theorem d_Law_draft_22 : decode b_Law_draft 22 = .ok (.ireturn, 1) := by decide +kernel
def hh_Law_draft : List (Nat × Nat × Nat × Nat) := [(0, 10, 13, 13), (0, 10, 17, 15)]
def f_Law_draft (x0 : Nat) (x1 : Int32) (x2 : Int32) (x3 : Nat) (M : fm_M) : Option (Int32 × fm_M) :=
  (ck x0 9).bind fun _ =>
  lt (f_AP_draft x0 x1 x2 M) (fun x104 M103 =>
    (sj x3 0 x104.toInt64 M103).bind fun M105 =>
    some (0, M105)) (fun E9 M103 =>
    if E9 = "java/lang/IllegalArgumentException" then
      some (1, M103)
    else
    if E9 = "java/lang/IllegalStateException" then
      some (2, M103)
    else
      none)
set_option maxHeartbeats 4000000 in
set_option maxRecDepth 100000 in
theorem c_Law_draft (l : Launch) (hst : l.stackTraces = false) (G : fm_G) (x0 : Nat) (x1 : Int32) (x2 : Int32) (x3 : Nat) {v : Int32} {M M' : fm_M} (h : f_Law_draft x0 x1 x2 x3 M = some (v, M')) : lMet l y_Law_draft b_Law_draft 5 (some .int) [(0, 10, 13, 13), (0, 10, 17, 15)] 7 112 G M [.ref (G.2.2 + x0), .int x1, .int x2, .ref (G.2.2 + x3)] (some (.int v)) M' := by
  refine l_met hst (by decide) rfl (Nat.le_of_ble_eq_true rfl) (fun p e s m args below meth c C0 C1 hP ls hl => ?_)
  have hx := C0.1
  have hb := C0.2.1
  have hl : lv_has ls 5 [(0, .ref (G.2.2 + x0)), (1, .int x1), (2, .int x2), (3, .ref (G.2.2 + x3))] := hl
  have hS : va_S (fm_A G.2.2) s.heap s.heap [] := va_S.rf
  unfold f_Law_draft at h
  refine lv_aload_n hx hb d_Law_draft_0 rfl (lv_at hl 3 rfl) ?_
  refine lv_iconst (v := 0) hx hb d_Law_draft_1 ic_0 ?_
  refine lv_aload_n hx hb d_Law_draft_2 rfl (lv_at hl 0 rfl) ?_
  refine lv_iload_n hx hb d_Law_draft_3 rfl (lv_at hl 1 rfl) ?_
  refine lv_iload_n hx hb d_Law_draft_4 rfl (lv_at hl 2 rfl) ?_
  obtain ⟨_, e101, h⟩ := ob h
  rcases ob4 h with ⟨x104, M103, e102, h⟩ | ⟨E9, M103, e102, h⟩
  · refine x_back1 (x_runV (o := .inl (some (.int x104))) C0 C1.2.1 L_Law_21 (As := [.int x1, .int x2]) (c_AP_draft (v := .inl x104) l C1.1 G x0 x1 x2 e102) ⟨Nat.le_of_ble_eq_true rfl, Nat.le_of_ble_eq_true rfl⟩ hP hS (ck_of e101) ly_AP rfl hl.1 rfl (Nat.le_of_ble_eq_true rfl) d_Law_draft_5 ⟨Nat.zero_le _, Nat.zero_le _⟩) hS (fun H locs hP hS => ?_)
    refine lv_i2l hx hb d_Law_draft_8 rfl ?_
    obtain ⟨M105, e106, h⟩ := ob h
    refine k_sj C0 hP hS e106 d_Law_draft_9 (fun H locs hP hS => ?_)
    refine lv_goto (tgt := 21) hx hb d_Law_draft_10 (by decide) ?_
    refine lv_iconst (v := 0) hx hb d_Law_draft_21 ic_0 ?_
    refine W.widen (k := 1) (n := 6) (Nat.zero_le _) (Nat.zero_le _) ?_
    cases h
    exact r_iret C0 hP hS d_Law_draft_22
  · by_cases c107 : E9 = "java/lang/IllegalArgumentException"
    · rw [if_pos c107] at h
      subst c107
      refine x_thrown (x_runV (o := .inr _) C0 C1.2.1 L_Law_21 (As := [.int x1, .int x2]) (c_AP_draft (v := .inr _) l C1.1 G x0 x1 x2 e102) ⟨Nat.le_of_ble_eq_true rfl, Nat.le_of_ble_eq_true rfl⟩ hP hS (ck_of e101) ly_AP rfl hl.1 rfl (Nat.le_of_ble_eq_true rfl) d_Law_draft_5 ⟨Nat.le_refl 1, Nat.le_refl 6⟩) hS (fun H locs q9 ce hP hS g1 g2 g3 => ?_)
      refine l_c1 C0 C1 (by decide) (by decide) (gT_in 323 (by decide +kernel) rfl) (by decide) g1 g2 g3 ?_
      refine lv_astore (lv' := [(4, .ref q9), (0, .ref (G.2.2 + x0)), (1, .int x1), (2, .int x2), (3, .ref (G.2.2 + x3))]) hx hb d_Law_draft_13 hl (by decide) rfl (fun ls hl => ?_)
      refine lv_iconst (v := 1) hx hb d_Law_draft_15 ic_1 ?_
      cases h
      exact r_iret C0 hP hS d_Law_draft_16
    rw [if_neg c107] at h
    by_cases c108 : E9 = "java/lang/IllegalStateException"
    · rw [if_pos c108] at h
      subst c108
      refine x_thrown (x_runV (o := .inr _) C0 C1.2.1 L_Law_21 (As := [.int x1, .int x2]) (c_AP_draft (v := .inr _) l C1.1 G x0 x1 x2 e102) ⟨Nat.le_of_ble_eq_true rfl, Nat.le_of_ble_eq_true rfl⟩ hP hS (ck_of e101) ly_AP rfl hl.1 rfl (Nat.le_of_ble_eq_true rfl) d_Law_draft_5 ⟨Nat.le_refl 1, Nat.le_refl 6⟩) hS (fun H locs q9 ce hP hS g1 g2 g3 => ?_)
      refine l_c2 (E1 := "java/lang/IllegalArgumentException") C0 C1 (by decide) (by decide) (gT_in 323 (by decide +kernel) rfl) (by decide) (by decide) (by decide) (gT_in 324 (by decide +kernel) rfl) (by decide) g1 g2 g3 ?_
      refine lv_astore (lv' := [(4, .ref q9), (0, .ref (G.2.2 + x0)), (1, .int x1), (2, .int x2), (3, .ref (G.2.2 + x3))]) hx hb d_Law_draft_17 hl (by decide) rfl (fun ls hl => ?_)
      refine lv_iconst (v := 2) hx hb d_Law_draft_19 ic_2 ?_
      cases h
      exact r_iret C0 hP hS d_Law_draft_20
    rw [if_neg c108] at h
    cases h
/-! AllocationProfilerLaw.range -/
theorem d_Law_range_0 : decode b_Law_range 0 = .ok (.aload 4, 2) := by decide +kernel
theorem d_Law_range_2 : decode b_Law_range 2 = .ok (.iconst 0, 1) := by decide +kernel
theorem d_Law_range_3 : decode b_Law_range 3 = .ok (.aload_n 0, 1) := by decide +kernel
theorem d_Law_range_4 : decode b_Law_range 4 = .ok (.iload_n 1, 1) := by decide +kernel
theorem d_Law_range_5 : decode b_Law_range 5 = .ok (.iload_n 2, 1) := by decide +kernel
theorem d_Law_range_6 : decode b_Law_range 6 = .ok (.iload_n 3, 1) := by decide +kernel
theorem d_Law_range_7 : decode b_Law_range 7 = .ok (.invokevirtual 25, 3) := by decide +kernel
theorem d_Law_range_10 : decode b_Law_range 10 = .ok (.i2l, 1) := by decide +kernel
theorem d_Law_range_11 : decode b_Law_range 11 = .ok (.lastore, 1) := by decide +kernel
theorem d_Law_range_12 : decode b_Law_range 12 = .ok (.goto 7, 3) := by decide +kernel
theorem d_Law_range_15 : decode b_Law_range 15 = .ok (.astore 5, 2) := by decide +kernel
theorem d_Law_range_17 : decode b_Law_range 17 = .ok (.iconst 1, 1) := by decide +kernel
theorem d_Law_range_18 : decode b_Law_range 18 = .ok (.ireturn, 1) := by decide +kernel
theorem d_Law_range_19 : decode b_Law_range 19 = .ok (.iconst 0, 1) := by decide +kernel
theorem d_Law_range_20 : decode b_Law_range 20 = .ok (.ireturn, 1) := by decide +kernel
def hh_Law_range : List (Nat × Nat × Nat × Nat) := [(0, 12, 15, 15)]
def f_Law_range (x0 : Nat) (x1 : Int32) (x2 : Int32) (x3 : Int32) (x4 : Nat) (M : fm_M) : Option (Int32 × fm_M) :=
  (ck x0 9).bind fun _ =>
  lt (f_AP_range x0 x1 x2 x3 M) (fun x104 M103 =>
    (sj x4 0 x104.toInt64 M103).bind fun M105 =>
    some (0, M105)) (fun E9 M103 =>
    if E9 = "java/lang/IllegalStateException" then
      some (1, M103)
    else
      none)
set_option maxHeartbeats 4000000 in
set_option maxRecDepth 100000 in
theorem c_Law_range (l : Launch) (hst : l.stackTraces = false) (G : fm_G) (x0 : Nat) (x1 : Int32) (x2 : Int32) (x3 : Int32) (x4 : Nat) {v : Int32} {M M' : fm_M} (h : f_Law_range x0 x1 x2 x3 x4 M = some (v, M')) : lMet l y_Law_range b_Law_range 6 (some .int) [(0, 12, 15, 15)] 7 113 G M [.ref (G.2.2 + x0), .int x1, .int x2, .int x3, .ref (G.2.2 + x4)] (some (.int v)) M' := by
  refine l_met hst (by decide) rfl (Nat.le_of_ble_eq_true rfl) (fun p e s m args below meth c C0 C1 hP ls hl => ?_)
  have hx := C0.1
  have hb := C0.2.1
  have hl : lv_has ls 6 [(0, .ref (G.2.2 + x0)), (1, .int x1), (2, .int x2), (3, .int x3), (4, .ref (G.2.2 + x4))] := hl
  have hS : va_S (fm_A G.2.2) s.heap s.heap [] := va_S.rf
  unfold f_Law_range at h
  refine lv_aload hx hb d_Law_range_0 (lv_at hl 4 rfl) ?_
  refine lv_iconst (v := 0) hx hb d_Law_range_2 ic_0 ?_
  refine lv_aload_n hx hb d_Law_range_3 rfl (lv_at hl 0 rfl) ?_
  refine lv_iload_n hx hb d_Law_range_4 rfl (lv_at hl 1 rfl) ?_
  refine lv_iload_n hx hb d_Law_range_5 rfl (lv_at hl 2 rfl) ?_
  refine lv_iload_n hx hb d_Law_range_6 rfl (lv_at hl 3 rfl) ?_
  obtain ⟨_, e101, h⟩ := ob h
  rcases ob4 h with ⟨x104, M103, e102, h⟩ | ⟨E9, M103, e102, h⟩
  · refine x_back1 (x_runV (o := .inl (some (.int x104))) C0 C1.2.1 L_Law_25 (As := [.int x1, .int x2, .int x3]) (c_AP_range (v := .inl x104) l C1.1 G x0 x1 x2 x3 e102) ⟨Nat.le_of_ble_eq_true rfl, Nat.le_of_ble_eq_true rfl⟩ hP hS (ck_of e101) ly_AP rfl hl.1 rfl (Nat.le_of_ble_eq_true rfl) d_Law_range_7 ⟨Nat.zero_le _, Nat.zero_le _⟩) hS (fun H locs hP hS => ?_)
    refine lv_i2l hx hb d_Law_range_10 rfl ?_
    obtain ⟨M105, e106, h⟩ := ob h
    refine k_sj C0 hP hS e106 d_Law_range_11 (fun H locs hP hS => ?_)
    refine lv_goto (tgt := 19) hx hb d_Law_range_12 (by decide) ?_
    refine lv_iconst (v := 0) hx hb d_Law_range_19 ic_0 ?_
    refine W.widen (k := 1) (n := 6) (Nat.zero_le _) (Nat.zero_le _) ?_
    cases h
    exact r_iret C0 hP hS d_Law_range_20
  · by_cases c107 : E9 = "java/lang/IllegalStateException"
    · rw [if_pos c107] at h
      subst c107
      refine x_thrown (x_runV (o := .inr _) C0 C1.2.1 L_Law_25 (As := [.int x1, .int x2, .int x3]) (c_AP_range (v := .inr _) l C1.1 G x0 x1 x2 x3 e102) ⟨Nat.le_of_ble_eq_true rfl, Nat.le_of_ble_eq_true rfl⟩ hP hS (ck_of e101) ly_AP rfl hl.1 rfl (Nat.le_of_ble_eq_true rfl) d_Law_range_7 ⟨Nat.le_refl 1, Nat.le_refl 6⟩) hS (fun H locs q9 ce hP hS g1 g2 g3 => ?_)
      refine l_c1 C0 C1 (by decide) (by decide) (gT_in 324 (by decide +kernel) rfl) (by decide) g1 g2 g3 ?_
      refine lv_astore (lv' := [(5, .ref q9), (0, .ref (G.2.2 + x0)), (1, .int x1), (2, .int x2), (3, .int x3), (4, .ref (G.2.2 + x4))]) hx hb d_Law_range_15 hl (by decide) rfl (fun ls hl => ?_)
      refine lv_iconst (v := 1) hx hb d_Law_range_17 ic_1 ?_
      cases h
      exact r_iret C0 hP hS d_Law_range_18
    rw [if_neg c107] at h
    cases h
/-! AllocationProfilerLaw.define -/
theorem d_Law_define_0 : decode b_Law_define 0 = .ok (.aload_n 1, 1) := by decide +kernel
theorem d_Law_define_1 : decode b_Law_define 1 = .ok (.iconst 0, 1) := by decide +kernel
theorem d_Law_define_2 : decode b_Law_define 2 = .ok (.aload_n 0, 1) := by decide +kernel
theorem d_Law_define_3 : decode b_Law_define 3 = .ok (.invokevirtual 29, 3) := by decide +kernel
theorem d_Law_define_6 : decode b_Law_define 6 = .ok (.i2l, 1) := by decide +kernel
theorem d_Law_define_7 : decode b_Law_define 7 = .ok (.lastore, 1) := by decide +kernel
theorem d_Law_define_8 : decode b_Law_define 8 = .ok (.goto 9, 3) := by decide +kernel
theorem d_Law_define_11 : decode b_Law_define 11 = .ok (.astore_n 2, 1) := by decide +kernel
theorem d_Law_define_12 : decode b_Law_define 12 = .ok (.iconst 1, 1) := by decide +kernel
theorem d_Law_define_13 : decode b_Law_define 13 = .ok (.ireturn, 1) := by decide +kernel
theorem d_Law_define_14 : decode b_Law_define 14 = .ok (.astore_n 2, 1) := by decide +kernel
theorem d_Law_define_15 : decode b_Law_define 15 = .ok (.iconst 2, 1) := by decide +kernel
theorem d_Law_define_16 : decode b_Law_define 16 = .ok (.ireturn, 1) := by decide +kernel
theorem d_Law_define_17 : decode b_Law_define 17 = .ok (.iconst 0, 1) := by decide +kernel
theorem d_Law_define_18 : decode b_Law_define 18 = .ok (.ireturn, 1) := by decide +kernel
def hh_Law_define : List (Nat × Nat × Nat × Nat) := [(0, 8, 11, 15), (0, 8, 14, 13)]
def f_Law_define (x0 : Nat) (x1 : Nat) (M : fm_M) : Option (Int32 × fm_M) :=
  (ck x0 9).bind fun _ =>
  lt (f_AP_define x0 M) (fun x104 M103 =>
    (sj x1 0 x104.toInt64 M103).bind fun M105 =>
    some (0, M105)) (fun E9 M103 =>
    if E9 = "java/lang/IllegalStateException" then
      some (1, M103)
    else
    if E9 = "java/lang/IllegalArgumentException" then
      some (2, M103)
    else
      none)
set_option maxHeartbeats 4000000 in
set_option maxRecDepth 100000 in
theorem c_Law_define (l : Launch) (hst : l.stackTraces = false) (G : fm_G) (x0 : Nat) (x1 : Nat) {v : Int32} {M M' : fm_M} (h : f_Law_define x0 x1 M = some (v, M')) : lMet l y_Law_define b_Law_define 3 (some .int) [(0, 8, 11, 15), (0, 8, 14, 13)] 7 134 G M [.ref (G.2.2 + x0), .ref (G.2.2 + x1)] (some (.int v)) M' := by
  refine l_met hst (by decide) rfl (Nat.le_of_ble_eq_true rfl) (fun p e s m args below meth c C0 C1 hP ls hl => ?_)
  have hx := C0.1
  have hb := C0.2.1
  have hl : lv_has ls 3 [(0, .ref (G.2.2 + x0)), (1, .ref (G.2.2 + x1))] := hl
  have hS : va_S (fm_A G.2.2) s.heap s.heap [] := va_S.rf
  unfold f_Law_define at h
  refine lv_aload_n hx hb d_Law_define_0 rfl (lv_at hl 1 rfl) ?_
  refine lv_iconst (v := 0) hx hb d_Law_define_1 ic_0 ?_
  refine lv_aload_n hx hb d_Law_define_2 rfl (lv_at hl 0 rfl) ?_
  obtain ⟨_, e101, h⟩ := ob h
  rcases ob4 h with ⟨x104, M103, e102, h⟩ | ⟨E9, M103, e102, h⟩
  · refine x_back1 (x_runV (o := .inl (some (.int x104))) C0 C1.2.1 L_Law_29 (As := []) (c_AP_define (v := .inl x104) l C1.1 G x0 e102) ⟨Nat.le_of_ble_eq_true rfl, Nat.le_of_ble_eq_true rfl⟩ hP hS (ck_of e101) ly_AP rfl hl.1 rfl (Nat.le_of_ble_eq_true rfl) d_Law_define_3 ⟨Nat.zero_le _, Nat.zero_le _⟩) hS (fun H locs hP hS => ?_)
    refine lv_i2l hx hb d_Law_define_6 rfl ?_
    obtain ⟨M105, e106, h⟩ := ob h
    refine k_sj C0 hP hS e106 d_Law_define_7 (fun H locs hP hS => ?_)
    refine lv_goto (tgt := 17) hx hb d_Law_define_8 (by decide) ?_
    refine lv_iconst (v := 0) hx hb d_Law_define_17 ic_0 ?_
    refine W.widen (k := 1) (n := 6) (Nat.zero_le _) (Nat.zero_le _) ?_
    cases h
    exact r_iret C0 hP hS d_Law_define_18
  · by_cases c107 : E9 = "java/lang/IllegalStateException"
    · rw [if_pos c107] at h
      subst c107
      refine x_thrown (x_runV (o := .inr _) C0 C1.2.1 L_Law_29 (As := []) (c_AP_define (v := .inr _) l C1.1 G x0 e102) ⟨Nat.le_of_ble_eq_true rfl, Nat.le_of_ble_eq_true rfl⟩ hP hS (ck_of e101) ly_AP rfl hl.1 rfl (Nat.le_of_ble_eq_true rfl) d_Law_define_3 ⟨Nat.le_refl 1, Nat.le_refl 6⟩) hS (fun H locs q9 ce hP hS g1 g2 g3 => ?_)
      refine l_c1 C0 C1 (by decide) (by decide) (gT_in 324 (by decide +kernel) rfl) (by decide) g1 g2 g3 ?_
      refine lv_astore_n (lv' := [(2, .ref q9), (0, .ref (G.2.2 + x0)), (1, .ref (G.2.2 + x1))]) hx hb d_Law_define_11 rfl hl (by decide) rfl (fun ls hl => ?_)
      refine lv_iconst (v := 1) hx hb d_Law_define_12 ic_1 ?_
      cases h
      exact r_iret C0 hP hS d_Law_define_13
    rw [if_neg c107] at h
    by_cases c108 : E9 = "java/lang/IllegalArgumentException"
    · rw [if_pos c108] at h
      subst c108
      refine x_thrown (x_runV (o := .inr _) C0 C1.2.1 L_Law_29 (As := []) (c_AP_define (v := .inr _) l C1.1 G x0 e102) ⟨Nat.le_of_ble_eq_true rfl, Nat.le_of_ble_eq_true rfl⟩ hP hS (ck_of e101) ly_AP rfl hl.1 rfl (Nat.le_of_ble_eq_true rfl) d_Law_define_3 ⟨Nat.le_refl 1, Nat.le_refl 6⟩) hS (fun H locs q9 ce hP hS g1 g2 g3 => ?_)
      refine l_c2 (E1 := "java/lang/IllegalStateException") C0 C1 (by decide) (by decide) (gT_in 324 (by decide +kernel) rfl) (by decide) (by decide) (by decide) (gT_in 323 (by decide +kernel) rfl) (by decide) g1 g2 g3 ?_
      refine lv_astore_n (lv' := [(2, .ref q9), (0, .ref (G.2.2 + x0)), (1, .ref (G.2.2 + x1))]) hx hb d_Law_define_14 rfl hl (by decide) rfl (fun ls hl => ?_)
      refine lv_iconst (v := 2) hx hb d_Law_define_15 ic_2 ?_
      cases h
      exact r_iret C0 hP hS d_Law_define_16
    rw [if_neg c108] at h
    cases h
/-! AllocationProfilerLaw.exclude -/
theorem d_Law_exclude_0 : decode b_Law_exclude 0 = .ok (.aload_n 0, 1) := by decide +kernel
theorem d_Law_exclude_1 : decode b_Law_exclude 1 = .ok (.iload_n 1, 1) := by decide +kernel
theorem d_Law_exclude_2 : decode b_Law_exclude 2 = .ok (.invokevirtual 33, 3) := by decide +kernel
theorem d_Law_exclude_5 : decode b_Law_exclude 5 = .ok (.goto 9, 3) := by decide +kernel
theorem d_Law_exclude_8 : decode b_Law_exclude 8 = .ok (.astore_n 2, 1) := by decide +kernel
theorem d_Law_exclude_9 : decode b_Law_exclude 9 = .ok (.iconst 1, 1) := by decide +kernel
theorem d_Law_exclude_10 : decode b_Law_exclude 10 = .ok (.ireturn, 1) := by decide +kernel
theorem d_Law_exclude_11 : decode b_Law_exclude 11 = .ok (.astore_n 2, 1) := by decide +kernel
theorem d_Law_exclude_12 : decode b_Law_exclude 12 = .ok (.iconst 2, 1) := by decide +kernel
theorem d_Law_exclude_13 : decode b_Law_exclude 13 = .ok (.ireturn, 1) := by decide +kernel
theorem d_Law_exclude_14 : decode b_Law_exclude 14 = .ok (.iconst 0, 1) := by decide +kernel
theorem d_Law_exclude_15 : decode b_Law_exclude 15 = .ok (.ireturn, 1) := by decide +kernel
def hh_Law_exclude : List (Nat × Nat × Nat × Nat) := [(0, 5, 8, 13), (0, 5, 11, 15)]
def f_Law_exclude (x0 : Nat) (x1 : Int32) (M : fm_M) : Option (Int32 × fm_M) :=
  (ck x0 9).bind fun _ =>
  lt (f_AP_exclude x0 x1 M) (fun _ M103 =>
    some (0, M103)) (fun E9 M103 =>
    if E9 = "java/lang/IllegalArgumentException" then
      some (1, M103)
    else
    if E9 = "java/lang/IllegalStateException" then
      some (2, M103)
    else
      none)
set_option maxHeartbeats 4000000 in
set_option maxRecDepth 100000 in
theorem c_Law_exclude (l : Launch) (hst : l.stackTraces = false) (G : fm_G) (x0 : Nat) (x1 : Int32) {v : Int32} {M M' : fm_M} (h : f_Law_exclude x0 x1 M = some (v, M')) : lMet l y_Law_exclude b_Law_exclude 3 (some .int) [(0, 5, 8, 13), (0, 5, 11, 15)] 8 132 G M [.ref (G.2.2 + x0), .int x1] (some (.int v)) M' := by
  refine l_met hst (by decide) rfl (Nat.le_of_ble_eq_true rfl) (fun p e s m args below meth c C0 C1 hP ls hl => ?_)
  have hx := C0.1
  have hb := C0.2.1
  have hl : lv_has ls 3 [(0, .ref (G.2.2 + x0)), (1, .int x1)] := hl
  have hS : va_S (fm_A G.2.2) s.heap s.heap [] := va_S.rf
  unfold f_Law_exclude at h
  refine lv_aload_n hx hb d_Law_exclude_0 rfl (lv_at hl 0 rfl) ?_
  refine lv_iload_n hx hb d_Law_exclude_1 rfl (lv_at hl 1 rfl) ?_
  obtain ⟨_, e101, h⟩ := ob h
  rcases ob4 h with ⟨_, M103, e102, h⟩ | ⟨E9, M103, e102, h⟩
  · refine x_backv (x_runV (o := .inl none) C0 C1.2.1 L_Law_33 (As := [.int x1]) (c_AP_exclude (v := .inl ()) l C1.1 G x0 x1 e102) ⟨Nat.le_of_ble_eq_true rfl, Nat.le_of_ble_eq_true rfl⟩ hP hS (ck_of e101) ly_AP rfl hl.1 rfl (Nat.le_of_ble_eq_true rfl) d_Law_exclude_2 ⟨Nat.zero_le _, Nat.zero_le _⟩) hS (fun H locs hP hS => ?_)
    refine lv_goto (tgt := 14) hx hb d_Law_exclude_5 (by decide) ?_
    refine lv_iconst (v := 0) hx hb d_Law_exclude_14 ic_0 ?_
    refine W.widen (k := 1) (n := 6) (Nat.zero_le _) (Nat.zero_le _) ?_
    cases h
    exact r_iret C0 hP hS d_Law_exclude_15
  · by_cases c105 : E9 = "java/lang/IllegalArgumentException"
    · rw [if_pos c105] at h
      subst c105
      refine x_thrown (x_runV (o := .inr _) C0 C1.2.1 L_Law_33 (As := [.int x1]) (c_AP_exclude (v := .inr _) l C1.1 G x0 x1 e102) ⟨Nat.le_of_ble_eq_true rfl, Nat.le_of_ble_eq_true rfl⟩ hP hS (ck_of e101) ly_AP rfl hl.1 rfl (Nat.le_of_ble_eq_true rfl) d_Law_exclude_2 ⟨Nat.le_refl 1, Nat.le_refl 6⟩) hS (fun H locs q9 ce hP hS g1 g2 g3 => ?_)
      refine l_c1 C0 C1 (by decide) (by decide) (gT_in 323 (by decide +kernel) rfl) (by decide) g1 g2 g3 ?_
      refine lv_astore_n (lv' := [(2, .ref q9), (0, .ref (G.2.2 + x0)), (1, .int x1)]) hx hb d_Law_exclude_8 rfl hl (by decide) rfl (fun ls hl => ?_)
      refine lv_iconst (v := 1) hx hb d_Law_exclude_9 ic_1 ?_
      cases h
      exact r_iret C0 hP hS d_Law_exclude_10
    rw [if_neg c105] at h
    by_cases c106 : E9 = "java/lang/IllegalStateException"
    · rw [if_pos c106] at h
      subst c106
      refine x_thrown (x_runV (o := .inr _) C0 C1.2.1 L_Law_33 (As := [.int x1]) (c_AP_exclude (v := .inr _) l C1.1 G x0 x1 e102) ⟨Nat.le_of_ble_eq_true rfl, Nat.le_of_ble_eq_true rfl⟩ hP hS (ck_of e101) ly_AP rfl hl.1 rfl (Nat.le_of_ble_eq_true rfl) d_Law_exclude_2 ⟨Nat.le_refl 1, Nat.le_refl 6⟩) hS (fun H locs q9 ce hP hS g1 g2 g3 => ?_)
      refine l_c2 (E1 := "java/lang/IllegalArgumentException") C0 C1 (by decide) (by decide) (gT_in 323 (by decide +kernel) rfl) (by decide) (by decide) (by decide) (gT_in 324 (by decide +kernel) rfl) (by decide) g1 g2 g3 ?_
      refine lv_astore_n (lv' := [(2, .ref q9), (0, .ref (G.2.2 + x0)), (1, .int x1)]) hx hb d_Law_exclude_11 rfl hl (by decide) rfl (fun ls hl => ?_)
      refine lv_iconst (v := 2) hx hb d_Law_exclude_12 ic_2 ?_
      cases h
      exact r_iret C0 hP hS d_Law_exclude_13
    rw [if_neg c106] at h
    cases h
/-! AllocationProfilerLaw.weave -/
theorem d_Law_weave_0 : decode b_Law_weave 0 = .ok (.aload_n 2, 1) := by decide +kernel
theorem d_Law_weave_1 : decode b_Law_weave 1 = .ok (.iconst 0, 1) := by decide +kernel
theorem d_Law_weave_2 : decode b_Law_weave 2 = .ok (.aload_n 0, 1) := by decide +kernel
theorem d_Law_weave_3 : decode b_Law_weave 3 = .ok (.iload_n 1, 1) := by decide +kernel
theorem d_Law_weave_4 : decode b_Law_weave 4 = .ok (.invokevirtual 37, 3) := by decide +kernel
theorem d_Law_weave_7 : decode b_Law_weave 7 = .ok (.i2l, 1) := by decide +kernel
theorem d_Law_weave_8 : decode b_Law_weave 8 = .ok (.lastore, 1) := by decide +kernel
theorem d_Law_weave_9 : decode b_Law_weave 9 = .ok (.goto 9, 3) := by decide +kernel
theorem d_Law_weave_12 : decode b_Law_weave 12 = .ok (.astore_n 3, 1) := by decide +kernel
theorem d_Law_weave_13 : decode b_Law_weave 13 = .ok (.iconst 1, 1) := by decide +kernel
theorem d_Law_weave_14 : decode b_Law_weave 14 = .ok (.ireturn, 1) := by decide +kernel
theorem d_Law_weave_15 : decode b_Law_weave 15 = .ok (.astore_n 3, 1) := by decide +kernel
theorem d_Law_weave_16 : decode b_Law_weave 16 = .ok (.iconst 2, 1) := by decide +kernel
theorem d_Law_weave_17 : decode b_Law_weave 17 = .ok (.ireturn, 1) := by decide +kernel
theorem d_Law_weave_18 : decode b_Law_weave 18 = .ok (.iconst 0, 1) := by decide +kernel
theorem d_Law_weave_19 : decode b_Law_weave 19 = .ok (.ireturn, 1) := by decide +kernel
def hh_Law_weave : List (Nat × Nat × Nat × Nat) := [(0, 9, 12, 13), (0, 9, 15, 15)]
def f_Law_weave (x0 : Nat) (x1 : Int32) (x2 : Nat) (M : fm_M) : Option (Int32 × fm_M) :=
  (ck x0 9).bind fun _ =>
  lt (f_AP_weave x0 x1 M) (fun x104 M103 =>
    (sj x2 0 x104.toInt64 M103).bind fun M105 =>
    some (0, M105)) (fun E9 M103 =>
    if E9 = "java/lang/IllegalArgumentException" then
      some (1, M103)
    else
    if E9 = "java/lang/IllegalStateException" then
      some (2, M103)
    else
      none)
set_option maxHeartbeats 4000000 in
set_option maxRecDepth 100000 in
theorem c_Law_weave (l : Launch) (hst : l.stackTraces = false) (G : fm_G) (x0 : Nat) (x1 : Int32) (x2 : Nat) {v : Int32} {M M' : fm_M} (h : f_Law_weave x0 x1 x2 M = some (v, M')) : lMet l y_Law_weave b_Law_weave 4 (some .int) [(0, 9, 12, 13), (0, 9, 15, 15)] 7 113 G M [.ref (G.2.2 + x0), .int x1, .ref (G.2.2 + x2)] (some (.int v)) M' := by
  refine l_met hst (by decide) rfl (Nat.le_of_ble_eq_true rfl) (fun p e s m args below meth c C0 C1 hP ls hl => ?_)
  have hx := C0.1
  have hb := C0.2.1
  have hl : lv_has ls 4 [(0, .ref (G.2.2 + x0)), (1, .int x1), (2, .ref (G.2.2 + x2))] := hl
  have hS : va_S (fm_A G.2.2) s.heap s.heap [] := va_S.rf
  unfold f_Law_weave at h
  refine lv_aload_n hx hb d_Law_weave_0 rfl (lv_at hl 2 rfl) ?_
  refine lv_iconst (v := 0) hx hb d_Law_weave_1 ic_0 ?_
  refine lv_aload_n hx hb d_Law_weave_2 rfl (lv_at hl 0 rfl) ?_
  refine lv_iload_n hx hb d_Law_weave_3 rfl (lv_at hl 1 rfl) ?_
  obtain ⟨_, e101, h⟩ := ob h
  rcases ob4 h with ⟨x104, M103, e102, h⟩ | ⟨E9, M103, e102, h⟩
  · refine x_back1 (x_runV (o := .inl (some (.int x104))) C0 C1.2.1 L_Law_37 (As := [.int x1]) (c_AP_weave (v := .inl x104) l C1.1 G x0 x1 e102) ⟨Nat.le_of_ble_eq_true rfl, Nat.le_of_ble_eq_true rfl⟩ hP hS (ck_of e101) ly_AP rfl hl.1 rfl (Nat.le_of_ble_eq_true rfl) d_Law_weave_4 ⟨Nat.zero_le _, Nat.zero_le _⟩) hS (fun H locs hP hS => ?_)
    refine lv_i2l hx hb d_Law_weave_7 rfl ?_
    obtain ⟨M105, e106, h⟩ := ob h
    refine k_sj C0 hP hS e106 d_Law_weave_8 (fun H locs hP hS => ?_)
    refine lv_goto (tgt := 18) hx hb d_Law_weave_9 (by decide) ?_
    refine lv_iconst (v := 0) hx hb d_Law_weave_18 ic_0 ?_
    refine W.widen (k := 1) (n := 6) (Nat.zero_le _) (Nat.zero_le _) ?_
    cases h
    exact r_iret C0 hP hS d_Law_weave_19
  · by_cases c107 : E9 = "java/lang/IllegalArgumentException"
    · rw [if_pos c107] at h
      subst c107
      refine x_thrown (x_runV (o := .inr _) C0 C1.2.1 L_Law_37 (As := [.int x1]) (c_AP_weave (v := .inr _) l C1.1 G x0 x1 e102) ⟨Nat.le_of_ble_eq_true rfl, Nat.le_of_ble_eq_true rfl⟩ hP hS (ck_of e101) ly_AP rfl hl.1 rfl (Nat.le_of_ble_eq_true rfl) d_Law_weave_4 ⟨Nat.le_refl 1, Nat.le_refl 6⟩) hS (fun H locs q9 ce hP hS g1 g2 g3 => ?_)
      refine l_c1 C0 C1 (by decide) (by decide) (gT_in 323 (by decide +kernel) rfl) (by decide) g1 g2 g3 ?_
      refine lv_astore_n (lv' := [(3, .ref q9), (0, .ref (G.2.2 + x0)), (1, .int x1), (2, .ref (G.2.2 + x2))]) hx hb d_Law_weave_12 rfl hl (by decide) rfl (fun ls hl => ?_)
      refine lv_iconst (v := 1) hx hb d_Law_weave_13 ic_1 ?_
      cases h
      exact r_iret C0 hP hS d_Law_weave_14
    rw [if_neg c107] at h
    by_cases c108 : E9 = "java/lang/IllegalStateException"
    · rw [if_pos c108] at h
      subst c108
      refine x_thrown (x_runV (o := .inr _) C0 C1.2.1 L_Law_37 (As := [.int x1]) (c_AP_weave (v := .inr _) l C1.1 G x0 x1 e102) ⟨Nat.le_of_ble_eq_true rfl, Nat.le_of_ble_eq_true rfl⟩ hP hS (ck_of e101) ly_AP rfl hl.1 rfl (Nat.le_of_ble_eq_true rfl) d_Law_weave_4 ⟨Nat.le_refl 1, Nat.le_refl 6⟩) hS (fun H locs q9 ce hP hS g1 g2 g3 => ?_)
      refine l_c2 (E1 := "java/lang/IllegalArgumentException") C0 C1 (by decide) (by decide) (gT_in 323 (by decide +kernel) rfl) (by decide) (by decide) (by decide) (gT_in 324 (by decide +kernel) rfl) (by decide) g1 g2 g3 ?_
      refine lv_astore_n (lv' := [(3, .ref q9), (0, .ref (G.2.2 + x0)), (1, .int x1), (2, .ref (G.2.2 + x2))]) hx hb d_Law_weave_15 rfl hl (by decide) rfl (fun ls hl => ?_)
      refine lv_iconst (v := 2) hx hb d_Law_weave_16 ic_2 ?_
      cases h
      exact r_iret C0 hP hS d_Law_weave_17
    rw [if_neg c108] at h
    cases h
/-! AllocationProfilerLaw.length -/
theorem d_Law_length_0 : decode b_Law_length 0 = .ok (.aload_n 3, 1) := by decide +kernel
theorem d_Law_length_1 : decode b_Law_length 1 = .ok (.iconst 0, 1) := by decide +kernel
theorem d_Law_length_2 : decode b_Law_length 2 = .ok (.aload_n 0, 1) := by decide +kernel
theorem d_Law_length_3 : decode b_Law_length 3 = .ok (.iload_n 1, 1) := by decide +kernel
theorem d_Law_length_4 : decode b_Law_length 4 = .ok (.iload_n 2, 1) := by decide +kernel
theorem d_Law_length_5 : decode b_Law_length 5 = .ok (.invokevirtual 40, 3) := by decide +kernel
theorem d_Law_length_8 : decode b_Law_length 8 = .ok (.i2l, 1) := by decide +kernel
theorem d_Law_length_9 : decode b_Law_length 9 = .ok (.lastore, 1) := by decide +kernel
theorem d_Law_length_10 : decode b_Law_length 10 = .ok (.goto 7, 3) := by decide +kernel
theorem d_Law_length_13 : decode b_Law_length 13 = .ok (.astore 4, 2) := by decide +kernel
theorem d_Law_length_15 : decode b_Law_length 15 = .ok (.iconst 1, 1) := by decide +kernel
theorem d_Law_length_16 : decode b_Law_length 16 = .ok (.ireturn, 1) := by decide +kernel
theorem d_Law_length_17 : decode b_Law_length 17 = .ok (.iconst 0, 1) := by decide +kernel
theorem d_Law_length_18 : decode b_Law_length 18 = .ok (.ireturn, 1) := by decide +kernel
def hh_Law_length : List (Nat × Nat × Nat × Nat) := [(0, 10, 13, 13)]
def f_Law_length (x0 : Nat) (x1 : Int32) (x2 : Int32) (x3 : Nat) (M : fm_M) : Option (Int32 × fm_M) :=
  (ck x0 9).bind fun _ =>
  lt (f_AP_length x0 x1 x2 M) (fun x104 M103 =>
    (sj x3 0 x104.toInt64 M103).bind fun M105 =>
    some (0, M105)) (fun E9 M103 =>
    if E9 = "java/lang/IllegalArgumentException" then
      some (1, M103)
    else
      none)
set_option maxHeartbeats 4000000 in
set_option maxRecDepth 100000 in
theorem c_Law_length (l : Launch) (hst : l.stackTraces = false) (G : fm_G) (x0 : Nat) (x1 : Int32) (x2 : Int32) (x3 : Nat) {v : Int32} {M M' : fm_M} (h : f_Law_length x0 x1 x2 x3 M = some (v, M')) : lMet l y_Law_length b_Law_length 5 (some .int) [(0, 10, 13, 13)] 8 133 G M [.ref (G.2.2 + x0), .int x1, .int x2, .ref (G.2.2 + x3)] (some (.int v)) M' := by
  refine l_met hst (by decide) rfl (Nat.le_of_ble_eq_true rfl) (fun p e s m args below meth c C0 C1 hP ls hl => ?_)
  have hx := C0.1
  have hb := C0.2.1
  have hl : lv_has ls 5 [(0, .ref (G.2.2 + x0)), (1, .int x1), (2, .int x2), (3, .ref (G.2.2 + x3))] := hl
  have hS : va_S (fm_A G.2.2) s.heap s.heap [] := va_S.rf
  unfold f_Law_length at h
  refine lv_aload_n hx hb d_Law_length_0 rfl (lv_at hl 3 rfl) ?_
  refine lv_iconst (v := 0) hx hb d_Law_length_1 ic_0 ?_
  refine lv_aload_n hx hb d_Law_length_2 rfl (lv_at hl 0 rfl) ?_
  refine lv_iload_n hx hb d_Law_length_3 rfl (lv_at hl 1 rfl) ?_
  refine lv_iload_n hx hb d_Law_length_4 rfl (lv_at hl 2 rfl) ?_
  obtain ⟨_, e101, h⟩ := ob h
  rcases ob4 h with ⟨x104, M103, e102, h⟩ | ⟨E9, M103, e102, h⟩
  · refine x_back1 (x_runV (o := .inl (some (.int x104))) C0 C1.2.1 L_Law_40 (As := [.int x1, .int x2]) (c_AP_length (v := .inl x104) l C1.1 G x0 x1 x2 e102) ⟨Nat.le_of_ble_eq_true rfl, Nat.le_of_ble_eq_true rfl⟩ hP hS (ck_of e101) ly_AP rfl hl.1 rfl (Nat.le_of_ble_eq_true rfl) d_Law_length_5 ⟨Nat.zero_le _, Nat.zero_le _⟩) hS (fun H locs hP hS => ?_)
    refine lv_i2l hx hb d_Law_length_8 rfl ?_
    obtain ⟨M105, e106, h⟩ := ob h
    refine k_sj C0 hP hS e106 d_Law_length_9 (fun H locs hP hS => ?_)
    refine lv_goto (tgt := 17) hx hb d_Law_length_10 (by decide) ?_
    refine lv_iconst (v := 0) hx hb d_Law_length_17 ic_0 ?_
    refine W.widen (k := 1) (n := 6) (Nat.zero_le _) (Nat.zero_le _) ?_
    cases h
    exact r_iret C0 hP hS d_Law_length_18
  · by_cases c107 : E9 = "java/lang/IllegalArgumentException"
    · rw [if_pos c107] at h
      subst c107
      refine x_thrown (x_runV (o := .inr _) C0 C1.2.1 L_Law_40 (As := [.int x1, .int x2]) (c_AP_length (v := .inr _) l C1.1 G x0 x1 x2 e102) ⟨Nat.le_of_ble_eq_true rfl, Nat.le_of_ble_eq_true rfl⟩ hP hS (ck_of e101) ly_AP rfl hl.1 rfl (Nat.le_of_ble_eq_true rfl) d_Law_length_5 ⟨Nat.le_refl 1, Nat.le_refl 6⟩) hS (fun H locs q9 ce hP hS g1 g2 g3 => ?_)
      refine l_c1 C0 C1 (by decide) (by decide) (gT_in 323 (by decide +kernel) rfl) (by decide) g1 g2 g3 ?_
      refine lv_astore (lv' := [(4, .ref q9), (0, .ref (G.2.2 + x0)), (1, .int x1), (2, .int x2), (3, .ref (G.2.2 + x3))]) hx hb d_Law_length_13 hl (by decide) rfl (fun ls hl => ?_)
      refine lv_iconst (v := 1) hx hb d_Law_length_15 ic_1 ?_
      cases h
      exact r_iret C0 hP hS d_Law_length_16
    rw [if_neg c107] at h
    cases h
/-! AllocationProfilerLaw.code -/
theorem d_Law_code_0 : decode b_Law_code 0 = .ok (.aload 4, 2) := by decide +kernel
theorem d_Law_code_2 : decode b_Law_code 2 = .ok (.iconst 0, 1) := by decide +kernel
theorem d_Law_code_3 : decode b_Law_code 3 = .ok (.aload_n 0, 1) := by decide +kernel
theorem d_Law_code_4 : decode b_Law_code 4 = .ok (.iload_n 1, 1) := by decide +kernel
theorem d_Law_code_5 : decode b_Law_code 5 = .ok (.iload_n 2, 1) := by decide +kernel
theorem d_Law_code_6 : decode b_Law_code 6 = .ok (.iload_n 3, 1) := by decide +kernel
theorem d_Law_code_7 : decode b_Law_code 7 = .ok (.invokevirtual 44, 3) := by decide +kernel
theorem d_Law_code_10 : decode b_Law_code 10 = .ok (.i2l, 1) := by decide +kernel
theorem d_Law_code_11 : decode b_Law_code 11 = .ok (.lastore, 1) := by decide +kernel
theorem d_Law_code_12 : decode b_Law_code 12 = .ok (.goto 11, 3) := by decide +kernel
theorem d_Law_code_15 : decode b_Law_code 15 = .ok (.astore 5, 2) := by decide +kernel
theorem d_Law_code_17 : decode b_Law_code 17 = .ok (.iconst 1, 1) := by decide +kernel
theorem d_Law_code_18 : decode b_Law_code 18 = .ok (.ireturn, 1) := by decide +kernel
theorem d_Law_code_19 : decode b_Law_code 19 = .ok (.astore 5, 2) := by decide +kernel
theorem d_Law_code_21 : decode b_Law_code 21 = .ok (.iconst 2, 1) := by decide +kernel
theorem d_Law_code_22 : decode b_Law_code 22 = .ok (.ireturn, 1) := by decide +kernel
theorem d_Law_code_23 : decode b_Law_code 23 = .ok (.iconst 0, 1) := by decide +kernel
theorem d_Law_code_24 : decode b_Law_code 24 = .ok (.ireturn, 1) := by decide +kernel
def hh_Law_code : List (Nat × Nat × Nat × Nat) := [(0, 12, 15, 13), (0, 12, 19, 47)]
def f_Law_code (x0 : Nat) (x1 : Int32) (x2 : Int32) (x3 : Int32) (x4 : Nat) (M : fm_M) : Option (Int32 × fm_M) :=
  (ck x0 9).bind fun _ =>
  lt (f_AP_code x0 x1 x2 x3 M) (fun x104 M103 =>
    (sj x4 0 x104.toInt64 M103).bind fun M105 =>
    some (0, M105)) (fun E9 M103 =>
    if E9 = "java/lang/IllegalArgumentException" then
      some (1, M103)
    else
    if E9 = "java/lang/IndexOutOfBoundsException" then
      some (2, M103)
    else
      none)
set_option maxHeartbeats 4000000 in
set_option maxRecDepth 100000 in
theorem c_Law_code (l : Launch) (hst : l.stackTraces = false) (G : fm_G) (x0 : Nat) (x1 : Int32) (x2 : Int32) (x3 : Int32) (x4 : Nat) {v : Int32} {M M' : fm_M} (h : f_Law_code x0 x1 x2 x3 x4 M = some (v, M')) : lMet l y_Law_code b_Law_code 6 (some .int) [(0, 12, 15, 13), (0, 12, 19, 47)] 8 135 G M [.ref (G.2.2 + x0), .int x1, .int x2, .int x3, .ref (G.2.2 + x4)] (some (.int v)) M' := by
  refine l_met hst (by decide) rfl (Nat.le_of_ble_eq_true rfl) (fun p e s m args below meth c C0 C1 hP ls hl => ?_)
  have hx := C0.1
  have hb := C0.2.1
  have hl : lv_has ls 6 [(0, .ref (G.2.2 + x0)), (1, .int x1), (2, .int x2), (3, .int x3), (4, .ref (G.2.2 + x4))] := hl
  have hS : va_S (fm_A G.2.2) s.heap s.heap [] := va_S.rf
  unfold f_Law_code at h
  refine lv_aload hx hb d_Law_code_0 (lv_at hl 4 rfl) ?_
  refine lv_iconst (v := 0) hx hb d_Law_code_2 ic_0 ?_
  refine lv_aload_n hx hb d_Law_code_3 rfl (lv_at hl 0 rfl) ?_
  refine lv_iload_n hx hb d_Law_code_4 rfl (lv_at hl 1 rfl) ?_
  refine lv_iload_n hx hb d_Law_code_5 rfl (lv_at hl 2 rfl) ?_
  refine lv_iload_n hx hb d_Law_code_6 rfl (lv_at hl 3 rfl) ?_
  obtain ⟨_, e101, h⟩ := ob h
  rcases ob4 h with ⟨x104, M103, e102, h⟩ | ⟨E9, M103, e102, h⟩
  · refine x_back1 (x_runV (o := .inl (some (.int x104))) C0 C1.2.1 L_Law_44 (As := [.int x1, .int x2, .int x3]) (c_AP_code (v := .inl x104) l C1.1 G x0 x1 x2 x3 e102) ⟨Nat.le_of_ble_eq_true rfl, Nat.le_of_ble_eq_true rfl⟩ hP hS (ck_of e101) ly_AP rfl hl.1 rfl (Nat.le_of_ble_eq_true rfl) d_Law_code_7 ⟨Nat.zero_le _, Nat.zero_le _⟩) hS (fun H locs hP hS => ?_)
    refine lv_i2l hx hb d_Law_code_10 rfl ?_
    obtain ⟨M105, e106, h⟩ := ob h
    refine k_sj C0 hP hS e106 d_Law_code_11 (fun H locs hP hS => ?_)
    refine lv_goto (tgt := 23) hx hb d_Law_code_12 (by decide) ?_
    refine lv_iconst (v := 0) hx hb d_Law_code_23 ic_0 ?_
    refine W.widen (k := 1) (n := 6) (Nat.zero_le _) (Nat.zero_le _) ?_
    cases h
    exact r_iret C0 hP hS d_Law_code_24
  · by_cases c107 : E9 = "java/lang/IllegalArgumentException"
    · rw [if_pos c107] at h
      subst c107
      refine x_thrown (x_runV (o := .inr _) C0 C1.2.1 L_Law_44 (As := [.int x1, .int x2, .int x3]) (c_AP_code (v := .inr _) l C1.1 G x0 x1 x2 x3 e102) ⟨Nat.le_of_ble_eq_true rfl, Nat.le_of_ble_eq_true rfl⟩ hP hS (ck_of e101) ly_AP rfl hl.1 rfl (Nat.le_of_ble_eq_true rfl) d_Law_code_7 ⟨Nat.le_refl 1, Nat.le_refl 6⟩) hS (fun H locs q9 ce hP hS g1 g2 g3 => ?_)
      refine l_c1 C0 C1 (by decide) (by decide) (gT_in 323 (by decide +kernel) rfl) (by decide) g1 g2 g3 ?_
      refine lv_astore (lv' := [(5, .ref q9), (0, .ref (G.2.2 + x0)), (1, .int x1), (2, .int x2), (3, .int x3), (4, .ref (G.2.2 + x4))]) hx hb d_Law_code_15 hl (by decide) rfl (fun ls hl => ?_)
      refine lv_iconst (v := 1) hx hb d_Law_code_17 ic_1 ?_
      cases h
      exact r_iret C0 hP hS d_Law_code_18
    rw [if_neg c107] at h
    by_cases c108 : E9 = "java/lang/IndexOutOfBoundsException"
    · rw [if_pos c108] at h
      subst c108
      refine x_thrown (x_runV (o := .inr _) C0 C1.2.1 L_Law_44 (As := [.int x1, .int x2, .int x3]) (c_AP_code (v := .inr _) l C1.1 G x0 x1 x2 x3 e102) ⟨Nat.le_of_ble_eq_true rfl, Nat.le_of_ble_eq_true rfl⟩ hP hS (ck_of e101) ly_AP rfl hl.1 rfl (Nat.le_of_ble_eq_true rfl) d_Law_code_7 ⟨Nat.le_refl 1, Nat.le_refl 6⟩) hS (fun H locs q9 ce hP hS g1 g2 g3 => ?_)
      refine l_c2 (E1 := "java/lang/IllegalArgumentException") C0 C1 (by decide) (by decide) (gT_in 323 (by decide +kernel) rfl) (by decide) (by decide) (by decide) (gT_in 641 (by decide +kernel) rfl) (by decide) g1 g2 g3 ?_
      refine lv_astore (lv' := [(5, .ref q9), (0, .ref (G.2.2 + x0)), (1, .int x1), (2, .int x2), (3, .int x3), (4, .ref (G.2.2 + x4))]) hx hb d_Law_code_19 hl (by decide) rfl (fun ls hl => ?_)
      refine lv_iconst (v := 2) hx hb d_Law_code_21 ic_2 ?_
      cases h
      exact r_iret C0 hP hS d_Law_code_22
    rw [if_neg c108] at h
    cases h
/-! AllocationProfilerLaw.site -/
theorem d_Law_site_0 : decode b_Law_site 0 = .ok (.aload_n 3, 1) := by decide +kernel
theorem d_Law_site_1 : decode b_Law_site 1 = .ok (.iconst 0, 1) := by decide +kernel
theorem d_Law_site_2 : decode b_Law_site 2 = .ok (.aload_n 0, 1) := by decide +kernel
theorem d_Law_site_3 : decode b_Law_site 3 = .ok (.iload_n 1, 1) := by decide +kernel
theorem d_Law_site_4 : decode b_Law_site 4 = .ok (.iload_n 2, 1) := by decide +kernel
theorem d_Law_site_5 : decode b_Law_site 5 = .ok (.invokevirtual 49, 3) := by decide +kernel
theorem d_Law_site_8 : decode b_Law_site 8 = .ok (.i2l, 1) := by decide +kernel
theorem d_Law_site_9 : decode b_Law_site 9 = .ok (.lastore, 1) := by decide +kernel
theorem d_Law_site_10 : decode b_Law_site 10 = .ok (.goto 11, 3) := by decide +kernel
theorem d_Law_site_13 : decode b_Law_site 13 = .ok (.astore 4, 2) := by decide +kernel
theorem d_Law_site_15 : decode b_Law_site 15 = .ok (.iconst 1, 1) := by decide +kernel
theorem d_Law_site_16 : decode b_Law_site 16 = .ok (.ireturn, 1) := by decide +kernel
theorem d_Law_site_17 : decode b_Law_site 17 = .ok (.astore 4, 2) := by decide +kernel
theorem d_Law_site_19 : decode b_Law_site 19 = .ok (.iconst 2, 1) := by decide +kernel
theorem d_Law_site_20 : decode b_Law_site 20 = .ok (.ireturn, 1) := by decide +kernel
theorem d_Law_site_21 : decode b_Law_site 21 = .ok (.iconst 0, 1) := by decide +kernel
theorem d_Law_site_22 : decode b_Law_site 22 = .ok (.ireturn, 1) := by decide +kernel
def hh_Law_site : List (Nat × Nat × Nat × Nat) := [(0, 10, 13, 13), (0, 10, 17, 52)]
def f_Law_site (x0 : Nat) (x1 : Int32) (x2 : Int32) (x3 : Nat) (M : fm_M) : Option (Int32 × fm_M) :=
  (ck x0 9).bind fun _ =>
  lt (f_AP_site x0 x1 x2 M) (fun x104 M103 =>
    (sj x3 0 x104.toInt64 M103).bind fun M105 =>
    some (0, M105)) (fun E9 M103 =>
    if E9 = "java/lang/IllegalArgumentException" then
      some (1, M103)
    else
    if E9 = "java/util/NoSuchElementException" then
      some (2, M103)
    else
      none)
set_option maxHeartbeats 4000000 in
set_option maxRecDepth 100000 in
theorem c_Law_site (l : Launch) (hst : l.stackTraces = false) (G : fm_G) (x0 : Nat) (x1 : Int32) (x2 : Int32) (x3 : Nat) {v : Int32} {M M' : fm_M} (h : f_Law_site x0 x1 x2 x3 M = some (v, M')) : lMet l y_Law_site b_Law_site 5 (some .int) [(0, 10, 13, 13), (0, 10, 17, 52)] 8 134 G M [.ref (G.2.2 + x0), .int x1, .int x2, .ref (G.2.2 + x3)] (some (.int v)) M' := by
  refine l_met hst (by decide) rfl (Nat.le_of_ble_eq_true rfl) (fun p e s m args below meth c C0 C1 hP ls hl => ?_)
  have hx := C0.1
  have hb := C0.2.1
  have hl : lv_has ls 5 [(0, .ref (G.2.2 + x0)), (1, .int x1), (2, .int x2), (3, .ref (G.2.2 + x3))] := hl
  have hS : va_S (fm_A G.2.2) s.heap s.heap [] := va_S.rf
  unfold f_Law_site at h
  refine lv_aload_n hx hb d_Law_site_0 rfl (lv_at hl 3 rfl) ?_
  refine lv_iconst (v := 0) hx hb d_Law_site_1 ic_0 ?_
  refine lv_aload_n hx hb d_Law_site_2 rfl (lv_at hl 0 rfl) ?_
  refine lv_iload_n hx hb d_Law_site_3 rfl (lv_at hl 1 rfl) ?_
  refine lv_iload_n hx hb d_Law_site_4 rfl (lv_at hl 2 rfl) ?_
  obtain ⟨_, e101, h⟩ := ob h
  rcases ob4 h with ⟨x104, M103, e102, h⟩ | ⟨E9, M103, e102, h⟩
  · refine x_back1 (x_runV (o := .inl (some (.int x104))) C0 C1.2.1 L_Law_49 (As := [.int x1, .int x2]) (c_AP_site (v := .inl x104) l C1.1 G x0 x1 x2 e102) ⟨Nat.le_of_ble_eq_true rfl, Nat.le_of_ble_eq_true rfl⟩ hP hS (ck_of e101) ly_AP rfl hl.1 rfl (Nat.le_of_ble_eq_true rfl) d_Law_site_5 ⟨Nat.zero_le _, Nat.zero_le _⟩) hS (fun H locs hP hS => ?_)
    refine lv_i2l hx hb d_Law_site_8 rfl ?_
    obtain ⟨M105, e106, h⟩ := ob h
    refine k_sj C0 hP hS e106 d_Law_site_9 (fun H locs hP hS => ?_)
    refine lv_goto (tgt := 21) hx hb d_Law_site_10 (by decide) ?_
    refine lv_iconst (v := 0) hx hb d_Law_site_21 ic_0 ?_
    refine W.widen (k := 1) (n := 6) (Nat.zero_le _) (Nat.zero_le _) ?_
    cases h
    exact r_iret C0 hP hS d_Law_site_22
  · by_cases c107 : E9 = "java/lang/IllegalArgumentException"
    · rw [if_pos c107] at h
      subst c107
      refine x_thrown (x_runV (o := .inr _) C0 C1.2.1 L_Law_49 (As := [.int x1, .int x2]) (c_AP_site (v := .inr _) l C1.1 G x0 x1 x2 e102) ⟨Nat.le_of_ble_eq_true rfl, Nat.le_of_ble_eq_true rfl⟩ hP hS (ck_of e101) ly_AP rfl hl.1 rfl (Nat.le_of_ble_eq_true rfl) d_Law_site_5 ⟨Nat.le_refl 1, Nat.le_refl 6⟩) hS (fun H locs q9 ce hP hS g1 g2 g3 => ?_)
      refine l_c1 C0 C1 (by decide) (by decide) (gT_in 323 (by decide +kernel) rfl) (by decide) g1 g2 g3 ?_
      refine lv_astore (lv' := [(4, .ref q9), (0, .ref (G.2.2 + x0)), (1, .int x1), (2, .int x2), (3, .ref (G.2.2 + x3))]) hx hb d_Law_site_13 hl (by decide) rfl (fun ls hl => ?_)
      refine lv_iconst (v := 1) hx hb d_Law_site_15 ic_1 ?_
      cases h
      exact r_iret C0 hP hS d_Law_site_16
    rw [if_neg c107] at h
    by_cases c108 : E9 = "java/util/NoSuchElementException"
    · rw [if_pos c108] at h
      subst c108
      refine x_thrown (x_runV (o := .inr _) C0 C1.2.1 L_Law_49 (As := [.int x1, .int x2]) (c_AP_site (v := .inr _) l C1.1 G x0 x1 x2 e102) ⟨Nat.le_of_ble_eq_true rfl, Nat.le_of_ble_eq_true rfl⟩ hP hS (ck_of e101) ly_AP rfl hl.1 rfl (Nat.le_of_ble_eq_true rfl) d_Law_site_5 ⟨Nat.le_refl 1, Nat.le_refl 6⟩) hS (fun H locs q9 ce hP hS g1 g2 g3 => ?_)
      refine l_c2 (E1 := "java/lang/IllegalArgumentException") C0 C1 (by decide) (by decide) (gT_in 323 (by decide +kernel) rfl) (by decide) (by decide) (by decide) (gT_in 678 (by decide +kernel) rfl) (by decide) g1 g2 g3 ?_
      refine lv_astore (lv' := [(4, .ref q9), (0, .ref (G.2.2 + x0)), (1, .int x1), (2, .int x2), (3, .ref (G.2.2 + x3))]) hx hb d_Law_site_17 hl (by decide) rfl (fun ls hl => ?_)
      refine lv_iconst (v := 2) hx hb d_Law_site_19 ic_2 ?_
      cases h
      exact r_iret C0 hP hS d_Law_site_20
    rw [if_neg c108] at h
    cases h
/-! AllocationProfilerLaw.start -/
theorem d_Law_start_0 : decode b_Law_start 0 = .ok (.aload_n 0, 1) := by decide +kernel
theorem d_Law_start_1 : decode b_Law_start 1 = .ok (.iload_n 1, 1) := by decide +kernel
theorem d_Law_start_2 : decode b_Law_start 2 = .ok (.iload_n 2, 1) := by decide +kernel
theorem d_Law_start_3 : decode b_Law_start 3 = .ok (.iload_n 3, 1) := by decide +kernel
theorem d_Law_start_4 : decode b_Law_start 4 = .ok (.invokevirtual 54, 3) := by decide +kernel
theorem d_Law_start_7 : decode b_Law_start 7 = .ok (.goto 11, 3) := by decide +kernel
theorem d_Law_start_10 : decode b_Law_start 10 = .ok (.astore 4, 2) := by decide +kernel
theorem d_Law_start_12 : decode b_Law_start 12 = .ok (.iconst 1, 1) := by decide +kernel
theorem d_Law_start_13 : decode b_Law_start 13 = .ok (.ireturn, 1) := by decide +kernel
theorem d_Law_start_14 : decode b_Law_start 14 = .ok (.astore 4, 2) := by decide +kernel
theorem d_Law_start_16 : decode b_Law_start 16 = .ok (.iconst 2, 1) := by decide +kernel
theorem d_Law_start_17 : decode b_Law_start 17 = .ok (.ireturn, 1) := by decide +kernel
theorem d_Law_start_18 : decode b_Law_start 18 = .ok (.iconst 0, 1) := by decide +kernel
theorem d_Law_start_19 : decode b_Law_start 19 = .ok (.ireturn, 1) := by decide +kernel
def hh_Law_start : List (Nat × Nat × Nat × Nat) := [(0, 7, 10, 13), (0, 7, 14, 15)]
def f_Law_start (x0 : Nat) (x1 : Int32) (x2 : Int32) (x3 : Int32) (M : fm_M) : Option (Int32 × fm_M) :=
  (ck x0 9).bind fun _ =>
  lt (f_AP_start x0 x1 x2 x3 M) (fun _ M103 =>
    some (0, M103)) (fun E9 M103 =>
    if E9 = "java/lang/IllegalArgumentException" then
      some (1, M103)
    else
    if E9 = "java/lang/IllegalStateException" then
      some (2, M103)
    else
      none)
set_option maxHeartbeats 4000000 in
set_option maxRecDepth 100000 in
theorem c_Law_start (l : Launch) (hst : l.stackTraces = false) (G : fm_G) (x0 : Nat) (x1 : Int32) (x2 : Int32) (x3 : Int32) {v : Int32} {M M' : fm_M} (h : f_Law_start x0 x1 x2 x3 M = some (v, M')) : lMet l y_Law_start b_Law_start 5 (some .int) [(0, 7, 10, 13), (0, 7, 14, 15)] 8 134 G M [.ref (G.2.2 + x0), .int x1, .int x2, .int x3] (some (.int v)) M' := by
  refine l_met hst (by decide) rfl (Nat.le_of_ble_eq_true rfl) (fun p e s m args below meth c C0 C1 hP ls hl => ?_)
  have hx := C0.1
  have hb := C0.2.1
  have hl : lv_has ls 5 [(0, .ref (G.2.2 + x0)), (1, .int x1), (2, .int x2), (3, .int x3)] := hl
  have hS : va_S (fm_A G.2.2) s.heap s.heap [] := va_S.rf
  unfold f_Law_start at h
  refine lv_aload_n hx hb d_Law_start_0 rfl (lv_at hl 0 rfl) ?_
  refine lv_iload_n hx hb d_Law_start_1 rfl (lv_at hl 1 rfl) ?_
  refine lv_iload_n hx hb d_Law_start_2 rfl (lv_at hl 2 rfl) ?_
  refine lv_iload_n hx hb d_Law_start_3 rfl (lv_at hl 3 rfl) ?_
  obtain ⟨_, e101, h⟩ := ob h
  rcases ob4 h with ⟨_, M103, e102, h⟩ | ⟨E9, M103, e102, h⟩
  · refine x_backv (x_runV (o := .inl none) C0 C1.2.1 L_Law_54 (As := [.int x1, .int x2, .int x3]) (c_AP_start (v := .inl ()) l C1.1 G x0 x1 x2 x3 e102) ⟨Nat.le_of_ble_eq_true rfl, Nat.le_of_ble_eq_true rfl⟩ hP hS (ck_of e101) ly_AP rfl hl.1 rfl (Nat.le_of_ble_eq_true rfl) d_Law_start_4 ⟨Nat.zero_le _, Nat.zero_le _⟩) hS (fun H locs hP hS => ?_)
    refine lv_goto (tgt := 18) hx hb d_Law_start_7 (by decide) ?_
    refine lv_iconst (v := 0) hx hb d_Law_start_18 ic_0 ?_
    refine W.widen (k := 1) (n := 6) (Nat.zero_le _) (Nat.zero_le _) ?_
    cases h
    exact r_iret C0 hP hS d_Law_start_19
  · by_cases c105 : E9 = "java/lang/IllegalArgumentException"
    · rw [if_pos c105] at h
      subst c105
      refine x_thrown (x_runV (o := .inr _) C0 C1.2.1 L_Law_54 (As := [.int x1, .int x2, .int x3]) (c_AP_start (v := .inr _) l C1.1 G x0 x1 x2 x3 e102) ⟨Nat.le_of_ble_eq_true rfl, Nat.le_of_ble_eq_true rfl⟩ hP hS (ck_of e101) ly_AP rfl hl.1 rfl (Nat.le_of_ble_eq_true rfl) d_Law_start_4 ⟨Nat.le_refl 1, Nat.le_refl 6⟩) hS (fun H locs q9 ce hP hS g1 g2 g3 => ?_)
      refine l_c1 C0 C1 (by decide) (by decide) (gT_in 323 (by decide +kernel) rfl) (by decide) g1 g2 g3 ?_
      refine lv_astore (lv' := [(4, .ref q9), (0, .ref (G.2.2 + x0)), (1, .int x1), (2, .int x2), (3, .int x3)]) hx hb d_Law_start_10 hl (by decide) rfl (fun ls hl => ?_)
      refine lv_iconst (v := 1) hx hb d_Law_start_12 ic_1 ?_
      cases h
      exact r_iret C0 hP hS d_Law_start_13
    rw [if_neg c105] at h
    by_cases c106 : E9 = "java/lang/IllegalStateException"
    · rw [if_pos c106] at h
      subst c106
      refine x_thrown (x_runV (o := .inr _) C0 C1.2.1 L_Law_54 (As := [.int x1, .int x2, .int x3]) (c_AP_start (v := .inr _) l C1.1 G x0 x1 x2 x3 e102) ⟨Nat.le_of_ble_eq_true rfl, Nat.le_of_ble_eq_true rfl⟩ hP hS (ck_of e101) ly_AP rfl hl.1 rfl (Nat.le_of_ble_eq_true rfl) d_Law_start_4 ⟨Nat.le_refl 1, Nat.le_refl 6⟩) hS (fun H locs q9 ce hP hS g1 g2 g3 => ?_)
      refine l_c2 (E1 := "java/lang/IllegalArgumentException") C0 C1 (by decide) (by decide) (gT_in 323 (by decide +kernel) rfl) (by decide) (by decide) (by decide) (gT_in 324 (by decide +kernel) rfl) (by decide) g1 g2 g3 ?_
      refine lv_astore (lv' := [(4, .ref q9), (0, .ref (G.2.2 + x0)), (1, .int x1), (2, .int x2), (3, .int x3)]) hx hb d_Law_start_14 hl (by decide) rfl (fun ls hl => ?_)
      refine lv_iconst (v := 2) hx hb d_Law_start_16 ic_2 ?_
      cases h
      exact r_iret C0 hP hS d_Law_start_17
    rw [if_neg c106] at h
    cases h
/-! AllocationProfilerLaw.run -/
theorem d_Law_run_0 : decode b_Law_run 0 = .ok (.aload_n 2, 1) := by decide +kernel
theorem d_Law_run_1 : decode b_Law_run 1 = .ok (.iconst 0, 1) := by decide +kernel
theorem d_Law_run_2 : decode b_Law_run 2 = .ok (.aload_n 0, 1) := by decide +kernel
theorem d_Law_run_3 : decode b_Law_run 3 = .ok (.iload_n 1, 1) := by decide +kernel
theorem d_Law_run_4 : decode b_Law_run 4 = .ok (.invokevirtual 58, 3) := by decide +kernel
theorem d_Law_run_7 : decode b_Law_run 7 = .ok (.i2l, 1) := by decide +kernel
theorem d_Law_run_8 : decode b_Law_run 8 = .ok (.lastore, 1) := by decide +kernel
theorem d_Law_run_9 : decode b_Law_run 9 = .ok (.goto 6, 3) := by decide +kernel
theorem d_Law_run_12 : decode b_Law_run 12 = .ok (.astore_n 3, 1) := by decide +kernel
theorem d_Law_run_13 : decode b_Law_run 13 = .ok (.iconst 1, 1) := by decide +kernel
theorem d_Law_run_14 : decode b_Law_run 14 = .ok (.ireturn, 1) := by decide +kernel
theorem d_Law_run_15 : decode b_Law_run 15 = .ok (.iconst 0, 1) := by decide +kernel
theorem d_Law_run_16 : decode b_Law_run 16 = .ok (.ireturn, 1) := by decide +kernel
def hh_Law_run : List (Nat × Nat × Nat × Nat) := [(0, 9, 12, 13)]
def f_Law_run (x0 : Nat) (x1 : Int32) (x2 : Nat) (M : fm_M) : Option (Int32 × fm_M) :=
  (ck x0 9).bind fun _ =>
  lt (f_AP_run x0 x1 M) (fun x104 M103 =>
    (sj x2 0 x104.toInt64 M103).bind fun M105 =>
    some (0, M105)) (fun E9 M103 =>
    if E9 = "java/lang/IllegalArgumentException" then
      some (1, M103)
    else
      none)
set_option maxHeartbeats 4000000 in
set_option maxRecDepth 100000 in
theorem c_Law_run (l : Launch) (hst : l.stackTraces = false) (G : fm_G) (x0 : Nat) (x1 : Int32) (x2 : Nat) {v : Int32} {M M' : fm_M} (h : f_Law_run x0 x1 x2 M = some (v, M')) : lMet l y_Law_run b_Law_run 4 (some .int) [(0, 9, 12, 13)] 7 166 G M [.ref (G.2.2 + x0), .int x1, .ref (G.2.2 + x2)] (some (.int v)) M' := by
  refine l_met hst (by decide) rfl (Nat.le_of_ble_eq_true rfl) (fun p e s m args below meth c C0 C1 hP ls hl => ?_)
  have hx := C0.1
  have hb := C0.2.1
  have hl : lv_has ls 4 [(0, .ref (G.2.2 + x0)), (1, .int x1), (2, .ref (G.2.2 + x2))] := hl
  have hS : va_S (fm_A G.2.2) s.heap s.heap [] := va_S.rf
  unfold f_Law_run at h
  refine lv_aload_n hx hb d_Law_run_0 rfl (lv_at hl 2 rfl) ?_
  refine lv_iconst (v := 0) hx hb d_Law_run_1 ic_0 ?_
  refine lv_aload_n hx hb d_Law_run_2 rfl (lv_at hl 0 rfl) ?_
  refine lv_iload_n hx hb d_Law_run_3 rfl (lv_at hl 1 rfl) ?_
  obtain ⟨_, e101, h⟩ := ob h
  rcases ob4 h with ⟨x104, M103, e102, h⟩ | ⟨E9, M103, e102, h⟩
  · refine x_back1 (x_runV (o := .inl (some (.int x104))) C0 C1.2.1 L_Law_58 (As := [.int x1]) (c_AP_run (v := .inl x104) l C1.1 G x0 x1 e102) ⟨Nat.le_of_ble_eq_true rfl, Nat.le_of_ble_eq_true rfl⟩ hP hS (ck_of e101) ly_AP rfl hl.1 rfl (Nat.le_of_ble_eq_true rfl) d_Law_run_4 ⟨Nat.zero_le _, Nat.zero_le _⟩) hS (fun H locs hP hS => ?_)
    refine lv_i2l hx hb d_Law_run_7 rfl ?_
    obtain ⟨M105, e106, h⟩ := ob h
    refine k_sj C0 hP hS e106 d_Law_run_8 (fun H locs hP hS => ?_)
    refine lv_goto (tgt := 15) hx hb d_Law_run_9 (by decide) ?_
    refine lv_iconst (v := 0) hx hb d_Law_run_15 ic_0 ?_
    refine W.widen (k := 1) (n := 6) (Nat.zero_le _) (Nat.zero_le _) ?_
    cases h
    exact r_iret C0 hP hS d_Law_run_16
  · by_cases c107 : E9 = "java/lang/IllegalArgumentException"
    · rw [if_pos c107] at h
      subst c107
      refine x_thrown (x_runV (o := .inr _) C0 C1.2.1 L_Law_58 (As := [.int x1]) (c_AP_run (v := .inr _) l C1.1 G x0 x1 e102) ⟨Nat.le_of_ble_eq_true rfl, Nat.le_of_ble_eq_true rfl⟩ hP hS (ck_of e101) ly_AP rfl hl.1 rfl (Nat.le_of_ble_eq_true rfl) d_Law_run_4 ⟨Nat.le_refl 1, Nat.le_refl 6⟩) hS (fun H locs q9 ce hP hS g1 g2 g3 => ?_)
      refine l_c1 C0 C1 (by decide) (by decide) (gT_in 323 (by decide +kernel) rfl) (by decide) g1 g2 g3 ?_
      refine lv_astore_n (lv' := [(3, .ref q9), (0, .ref (G.2.2 + x0)), (1, .int x1), (2, .ref (G.2.2 + x2))]) hx hb d_Law_run_12 rfl hl (by decide) rfl (fun ls hl => ?_)
      refine lv_iconst (v := 1) hx hb d_Law_run_13 ic_1 ?_
      cases h
      exact r_iret C0 hP hS d_Law_run_14
    rw [if_neg c107] at h
    cases h
/-! AllocationProfilerLaw.state -/
theorem d_Law_state_0 : decode b_Law_state 0 = .ok (.aload_n 2, 1) := by decide +kernel
theorem d_Law_state_1 : decode b_Law_state 1 = .ok (.iconst 0, 1) := by decide +kernel
theorem d_Law_state_2 : decode b_Law_state 2 = .ok (.aload_n 0, 1) := by decide +kernel
theorem d_Law_state_3 : decode b_Law_state 3 = .ok (.iload_n 1, 1) := by decide +kernel
theorem d_Law_state_4 : decode b_Law_state 4 = .ok (.invokevirtual 61, 3) := by decide +kernel
theorem d_Law_state_7 : decode b_Law_state 7 = .ok (.i2l, 1) := by decide +kernel
theorem d_Law_state_8 : decode b_Law_state 8 = .ok (.lastore, 1) := by decide +kernel
theorem d_Law_state_9 : decode b_Law_state 9 = .ok (.goto 6, 3) := by decide +kernel
theorem d_Law_state_12 : decode b_Law_state 12 = .ok (.astore_n 3, 1) := by decide +kernel
theorem d_Law_state_13 : decode b_Law_state 13 = .ok (.iconst 1, 1) := by decide +kernel
theorem d_Law_state_14 : decode b_Law_state 14 = .ok (.ireturn, 1) := by decide +kernel
theorem d_Law_state_15 : decode b_Law_state 15 = .ok (.iconst 0, 1) := by decide +kernel
theorem d_Law_state_16 : decode b_Law_state 16 = .ok (.ireturn, 1) := by decide +kernel
def hh_Law_state : List (Nat × Nat × Nat × Nat) := [(0, 9, 12, 13)]
def f_Law_state (x0 : Nat) (x1 : Int32) (x2 : Nat) (M : fm_M) : Option (Int32 × fm_M) :=
  (ck x0 9).bind fun _ =>
  lt (f_AP_state x0 x1 M) (fun x104 M103 =>
    (sj x2 0 x104.toInt64 M103).bind fun M105 =>
    some (0, M105)) (fun E9 M103 =>
    if E9 = "java/lang/IllegalArgumentException" then
      some (1, M103)
    else
      none)
set_option maxHeartbeats 4000000 in
set_option maxRecDepth 100000 in
theorem c_Law_state (l : Launch) (hst : l.stackTraces = false) (G : fm_G) (x0 : Nat) (x1 : Int32) (x2 : Nat) {v : Int32} {M M' : fm_M} (h : f_Law_state x0 x1 x2 M = some (v, M')) : lMet l y_Law_state b_Law_state 4 (some .int) [(0, 9, 12, 13)] 8 131 G M [.ref (G.2.2 + x0), .int x1, .ref (G.2.2 + x2)] (some (.int v)) M' := by
  refine l_met hst (by decide) rfl (Nat.le_of_ble_eq_true rfl) (fun p e s m args below meth c C0 C1 hP ls hl => ?_)
  have hx := C0.1
  have hb := C0.2.1
  have hl : lv_has ls 4 [(0, .ref (G.2.2 + x0)), (1, .int x1), (2, .ref (G.2.2 + x2))] := hl
  have hS : va_S (fm_A G.2.2) s.heap s.heap [] := va_S.rf
  unfold f_Law_state at h
  refine lv_aload_n hx hb d_Law_state_0 rfl (lv_at hl 2 rfl) ?_
  refine lv_iconst (v := 0) hx hb d_Law_state_1 ic_0 ?_
  refine lv_aload_n hx hb d_Law_state_2 rfl (lv_at hl 0 rfl) ?_
  refine lv_iload_n hx hb d_Law_state_3 rfl (lv_at hl 1 rfl) ?_
  obtain ⟨_, e101, h⟩ := ob h
  rcases ob4 h with ⟨x104, M103, e102, h⟩ | ⟨E9, M103, e102, h⟩
  · refine x_back1 (x_runV (o := .inl (some (.int x104))) C0 C1.2.1 L_Law_61 (As := [.int x1]) (c_AP_state (v := .inl x104) l C1.1 G x0 x1 e102) ⟨Nat.le_of_ble_eq_true rfl, Nat.le_of_ble_eq_true rfl⟩ hP hS (ck_of e101) ly_AP rfl hl.1 rfl (Nat.le_of_ble_eq_true rfl) d_Law_state_4 ⟨Nat.zero_le _, Nat.zero_le _⟩) hS (fun H locs hP hS => ?_)
    refine lv_i2l hx hb d_Law_state_7 rfl ?_
    obtain ⟨M105, e106, h⟩ := ob h
    refine k_sj C0 hP hS e106 d_Law_state_8 (fun H locs hP hS => ?_)
    refine lv_goto (tgt := 15) hx hb d_Law_state_9 (by decide) ?_
    refine lv_iconst (v := 0) hx hb d_Law_state_15 ic_0 ?_
    refine W.widen (k := 1) (n := 6) (Nat.zero_le _) (Nat.zero_le _) ?_
    cases h
    exact r_iret C0 hP hS d_Law_state_16
  · by_cases c107 : E9 = "java/lang/IllegalArgumentException"
    · rw [if_pos c107] at h
      subst c107
      refine x_thrown (x_runV (o := .inr _) C0 C1.2.1 L_Law_61 (As := [.int x1]) (c_AP_state (v := .inr _) l C1.1 G x0 x1 e102) ⟨Nat.le_of_ble_eq_true rfl, Nat.le_of_ble_eq_true rfl⟩ hP hS (ck_of e101) ly_AP rfl hl.1 rfl (Nat.le_of_ble_eq_true rfl) d_Law_state_4 ⟨Nat.le_refl 1, Nat.le_refl 6⟩) hS (fun H locs q9 ce hP hS g1 g2 g3 => ?_)
      refine l_c1 C0 C1 (by decide) (by decide) (gT_in 323 (by decide +kernel) rfl) (by decide) g1 g2 g3 ?_
      refine lv_astore_n (lv' := [(3, .ref q9), (0, .ref (G.2.2 + x0)), (1, .int x1), (2, .ref (G.2.2 + x2))]) hx hb d_Law_state_12 rfl hl (by decide) rfl (fun ls hl => ?_)
      refine lv_iconst (v := 1) hx hb d_Law_state_13 ic_1 ?_
      cases h
      exact r_iret C0 hP hS d_Law_state_14
    rw [if_neg c107] at h
    cases h
/-! AllocationProfilerLaw.result -/
theorem d_Law_result_0 : decode b_Law_result 0 = .ok (.aload_n 2, 1) := by decide +kernel
theorem d_Law_result_1 : decode b_Law_result 1 = .ok (.iconst 0, 1) := by decide +kernel
theorem d_Law_result_2 : decode b_Law_result 2 = .ok (.aload_n 0, 1) := by decide +kernel
theorem d_Law_result_3 : decode b_Law_result 3 = .ok (.iload_n 1, 1) := by decide +kernel
theorem d_Law_result_4 : decode b_Law_result 4 = .ok (.invokevirtual 64, 3) := by decide +kernel
theorem d_Law_result_7 : decode b_Law_result 7 = .ok (.i2l, 1) := by decide +kernel
theorem d_Law_result_8 : decode b_Law_result 8 = .ok (.lastore, 1) := by decide +kernel
theorem d_Law_result_9 : decode b_Law_result 9 = .ok (.goto 9, 3) := by decide +kernel
theorem d_Law_result_12 : decode b_Law_result 12 = .ok (.astore_n 3, 1) := by decide +kernel
theorem d_Law_result_13 : decode b_Law_result 13 = .ok (.iconst 1, 1) := by decide +kernel
theorem d_Law_result_14 : decode b_Law_result 14 = .ok (.ireturn, 1) := by decide +kernel
theorem d_Law_result_15 : decode b_Law_result 15 = .ok (.astore_n 3, 1) := by decide +kernel
theorem d_Law_result_16 : decode b_Law_result 16 = .ok (.iconst 2, 1) := by decide +kernel
theorem d_Law_result_17 : decode b_Law_result 17 = .ok (.ireturn, 1) := by decide +kernel
theorem d_Law_result_18 : decode b_Law_result 18 = .ok (.iconst 0, 1) := by decide +kernel
theorem d_Law_result_19 : decode b_Law_result 19 = .ok (.ireturn, 1) := by decide +kernel
def hh_Law_result : List (Nat × Nat × Nat × Nat) := [(0, 9, 12, 13), (0, 9, 15, 52)]
def f_Law_result (x0 : Nat) (x1 : Int32) (x2 : Nat) (M : fm_M) : Option (Int32 × fm_M) :=
  (ck x0 9).bind fun _ =>
  lt (f_AP_result x0 x1 M) (fun x104 M103 =>
    (sj x2 0 x104.toInt64 M103).bind fun M105 =>
    some (0, M105)) (fun E9 M103 =>
    if E9 = "java/lang/IllegalArgumentException" then
      some (1, M103)
    else
    if E9 = "java/util/NoSuchElementException" then
      some (2, M103)
    else
      none)
set_option maxHeartbeats 4000000 in
set_option maxRecDepth 100000 in
theorem c_Law_result (l : Launch) (hst : l.stackTraces = false) (G : fm_G) (x0 : Nat) (x1 : Int32) (x2 : Nat) {v : Int32} {M M' : fm_M} (h : f_Law_result x0 x1 x2 M = some (v, M')) : lMet l y_Law_result b_Law_result 4 (some .int) [(0, 9, 12, 13), (0, 9, 15, 52)] 8 132 G M [.ref (G.2.2 + x0), .int x1, .ref (G.2.2 + x2)] (some (.int v)) M' := by
  refine l_met hst (by decide) rfl (Nat.le_of_ble_eq_true rfl) (fun p e s m args below meth c C0 C1 hP ls hl => ?_)
  have hx := C0.1
  have hb := C0.2.1
  have hl : lv_has ls 4 [(0, .ref (G.2.2 + x0)), (1, .int x1), (2, .ref (G.2.2 + x2))] := hl
  have hS : va_S (fm_A G.2.2) s.heap s.heap [] := va_S.rf
  unfold f_Law_result at h
  refine lv_aload_n hx hb d_Law_result_0 rfl (lv_at hl 2 rfl) ?_
  refine lv_iconst (v := 0) hx hb d_Law_result_1 ic_0 ?_
  refine lv_aload_n hx hb d_Law_result_2 rfl (lv_at hl 0 rfl) ?_
  refine lv_iload_n hx hb d_Law_result_3 rfl (lv_at hl 1 rfl) ?_
  obtain ⟨_, e101, h⟩ := ob h
  rcases ob4 h with ⟨x104, M103, e102, h⟩ | ⟨E9, M103, e102, h⟩
  · refine x_back1 (x_runV (o := .inl (some (.int x104))) C0 C1.2.1 L_Law_64 (As := [.int x1]) (c_AP_result (v := .inl x104) l C1.1 G x0 x1 e102) ⟨Nat.le_of_ble_eq_true rfl, Nat.le_of_ble_eq_true rfl⟩ hP hS (ck_of e101) ly_AP rfl hl.1 rfl (Nat.le_of_ble_eq_true rfl) d_Law_result_4 ⟨Nat.zero_le _, Nat.zero_le _⟩) hS (fun H locs hP hS => ?_)
    refine lv_i2l hx hb d_Law_result_7 rfl ?_
    obtain ⟨M105, e106, h⟩ := ob h
    refine k_sj C0 hP hS e106 d_Law_result_8 (fun H locs hP hS => ?_)
    refine lv_goto (tgt := 18) hx hb d_Law_result_9 (by decide) ?_
    refine lv_iconst (v := 0) hx hb d_Law_result_18 ic_0 ?_
    refine W.widen (k := 1) (n := 6) (Nat.zero_le _) (Nat.zero_le _) ?_
    cases h
    exact r_iret C0 hP hS d_Law_result_19
  · by_cases c107 : E9 = "java/lang/IllegalArgumentException"
    · rw [if_pos c107] at h
      subst c107
      refine x_thrown (x_runV (o := .inr _) C0 C1.2.1 L_Law_64 (As := [.int x1]) (c_AP_result (v := .inr _) l C1.1 G x0 x1 e102) ⟨Nat.le_of_ble_eq_true rfl, Nat.le_of_ble_eq_true rfl⟩ hP hS (ck_of e101) ly_AP rfl hl.1 rfl (Nat.le_of_ble_eq_true rfl) d_Law_result_4 ⟨Nat.le_refl 1, Nat.le_refl 6⟩) hS (fun H locs q9 ce hP hS g1 g2 g3 => ?_)
      refine l_c1 C0 C1 (by decide) (by decide) (gT_in 323 (by decide +kernel) rfl) (by decide) g1 g2 g3 ?_
      refine lv_astore_n (lv' := [(3, .ref q9), (0, .ref (G.2.2 + x0)), (1, .int x1), (2, .ref (G.2.2 + x2))]) hx hb d_Law_result_12 rfl hl (by decide) rfl (fun ls hl => ?_)
      refine lv_iconst (v := 1) hx hb d_Law_result_13 ic_1 ?_
      cases h
      exact r_iret C0 hP hS d_Law_result_14
    rw [if_neg c107] at h
    by_cases c108 : E9 = "java/util/NoSuchElementException"
    · rw [if_pos c108] at h
      subst c108
      refine x_thrown (x_runV (o := .inr _) C0 C1.2.1 L_Law_64 (As := [.int x1]) (c_AP_result (v := .inr _) l C1.1 G x0 x1 e102) ⟨Nat.le_of_ble_eq_true rfl, Nat.le_of_ble_eq_true rfl⟩ hP hS (ck_of e101) ly_AP rfl hl.1 rfl (Nat.le_of_ble_eq_true rfl) d_Law_result_4 ⟨Nat.le_refl 1, Nat.le_refl 6⟩) hS (fun H locs q9 ce hP hS g1 g2 g3 => ?_)
      refine l_c2 (E1 := "java/lang/IllegalArgumentException") C0 C1 (by decide) (by decide) (gT_in 323 (by decide +kernel) rfl) (by decide) (by decide) (by decide) (gT_in 678 (by decide +kernel) rfl) (by decide) g1 g2 g3 ?_
      refine lv_astore_n (lv' := [(3, .ref q9), (0, .ref (G.2.2 + x0)), (1, .int x1), (2, .ref (G.2.2 + x2))]) hx hb d_Law_result_15 rfl hl (by decide) rfl (fun ls hl => ?_)
      refine lv_iconst (v := 2) hx hb d_Law_result_16 ic_2 ?_
      cases h
      exact r_iret C0 hP hS d_Law_result_17
    rw [if_neg c108] at h
    cases h
/-! AllocationProfilerLaw.object -/
theorem d_Law_object_0 : decode b_Law_object 0 = .ok (.aload_n 2, 1) := by decide +kernel
theorem d_Law_object_1 : decode b_Law_object 1 = .ok (.iconst 0, 1) := by decide +kernel
theorem d_Law_object_2 : decode b_Law_object 2 = .ok (.aload_n 0, 1) := by decide +kernel
theorem d_Law_object_3 : decode b_Law_object 3 = .ok (.iload_n 1, 1) := by decide +kernel
theorem d_Law_object_4 : decode b_Law_object 4 = .ok (.invokevirtual 67, 3) := by decide +kernel
theorem d_Law_object_7 : decode b_Law_object 7 = .ok (.i2l, 1) := by decide +kernel
theorem d_Law_object_8 : decode b_Law_object 8 = .ok (.lastore, 1) := by decide +kernel
theorem d_Law_object_9 : decode b_Law_object 9 = .ok (.goto 6, 3) := by decide +kernel
theorem d_Law_object_12 : decode b_Law_object 12 = .ok (.astore_n 3, 1) := by decide +kernel
theorem d_Law_object_13 : decode b_Law_object 13 = .ok (.iconst 1, 1) := by decide +kernel
theorem d_Law_object_14 : decode b_Law_object 14 = .ok (.ireturn, 1) := by decide +kernel
theorem d_Law_object_15 : decode b_Law_object 15 = .ok (.iconst 0, 1) := by decide +kernel
theorem d_Law_object_16 : decode b_Law_object 16 = .ok (.ireturn, 1) := by decide +kernel
def hh_Law_object : List (Nat × Nat × Nat × Nat) := [(0, 9, 12, 13)]
def f_Law_object (x0 : Nat) (x1 : Int32) (x2 : Nat) (M : fm_M) : Option (Int32 × fm_M) :=
  (ck x0 9).bind fun _ =>
  lt (f_AP_object x0 x1 M) (fun x104 M103 =>
    (sj x2 0 x104.toInt64 M103).bind fun M105 =>
    some (0, M105)) (fun E9 M103 =>
    if E9 = "java/lang/IllegalArgumentException" then
      some (1, M103)
    else
      none)
set_option maxHeartbeats 4000000 in
set_option maxRecDepth 100000 in
theorem c_Law_object (l : Launch) (hst : l.stackTraces = false) (G : fm_G) (x0 : Nat) (x1 : Int32) (x2 : Nat) {v : Int32} {M M' : fm_M} (h : f_Law_object x0 x1 x2 M = some (v, M')) : lMet l y_Law_object b_Law_object 4 (some .int) [(0, 9, 12, 13)] 7 111 G M [.ref (G.2.2 + x0), .int x1, .ref (G.2.2 + x2)] (some (.int v)) M' := by
  refine l_met hst (by decide) rfl (Nat.le_of_ble_eq_true rfl) (fun p e s m args below meth c C0 C1 hP ls hl => ?_)
  have hx := C0.1
  have hb := C0.2.1
  have hl : lv_has ls 4 [(0, .ref (G.2.2 + x0)), (1, .int x1), (2, .ref (G.2.2 + x2))] := hl
  have hS : va_S (fm_A G.2.2) s.heap s.heap [] := va_S.rf
  unfold f_Law_object at h
  refine lv_aload_n hx hb d_Law_object_0 rfl (lv_at hl 2 rfl) ?_
  refine lv_iconst (v := 0) hx hb d_Law_object_1 ic_0 ?_
  refine lv_aload_n hx hb d_Law_object_2 rfl (lv_at hl 0 rfl) ?_
  refine lv_iload_n hx hb d_Law_object_3 rfl (lv_at hl 1 rfl) ?_
  obtain ⟨_, e101, h⟩ := ob h
  rcases ob4 h with ⟨x104, M103, e102, h⟩ | ⟨E9, M103, e102, h⟩
  · refine x_back1 (x_runV (o := .inl (some (.int x104))) C0 C1.2.1 L_Law_67 (As := [.int x1]) (c_AP_object (v := .inl x104) l C1.1 G x0 x1 e102) ⟨Nat.le_of_ble_eq_true rfl, Nat.le_of_ble_eq_true rfl⟩ hP hS (ck_of e101) ly_AP rfl hl.1 rfl (Nat.le_of_ble_eq_true rfl) d_Law_object_4 ⟨Nat.zero_le _, Nat.zero_le _⟩) hS (fun H locs hP hS => ?_)
    refine lv_i2l hx hb d_Law_object_7 rfl ?_
    obtain ⟨M105, e106, h⟩ := ob h
    refine k_sj C0 hP hS e106 d_Law_object_8 (fun H locs hP hS => ?_)
    refine lv_goto (tgt := 15) hx hb d_Law_object_9 (by decide) ?_
    refine lv_iconst (v := 0) hx hb d_Law_object_15 ic_0 ?_
    refine W.widen (k := 1) (n := 6) (Nat.zero_le _) (Nat.zero_le _) ?_
    cases h
    exact r_iret C0 hP hS d_Law_object_16
  · by_cases c107 : E9 = "java/lang/IllegalArgumentException"
    · rw [if_pos c107] at h
      subst c107
      refine x_thrown (x_runV (o := .inr _) C0 C1.2.1 L_Law_67 (As := [.int x1]) (c_AP_object (v := .inr _) l C1.1 G x0 x1 e102) ⟨Nat.le_of_ble_eq_true rfl, Nat.le_of_ble_eq_true rfl⟩ hP hS (ck_of e101) ly_AP rfl hl.1 rfl (Nat.le_of_ble_eq_true rfl) d_Law_object_4 ⟨Nat.le_refl 1, Nat.le_refl 6⟩) hS (fun H locs q9 ce hP hS g1 g2 g3 => ?_)
      refine l_c1 C0 C1 (by decide) (by decide) (gT_in 323 (by decide +kernel) rfl) (by decide) g1 g2 g3 ?_
      refine lv_astore_n (lv' := [(3, .ref q9), (0, .ref (G.2.2 + x0)), (1, .int x1), (2, .ref (G.2.2 + x2))]) hx hb d_Law_object_12 rfl hl (by decide) rfl (fun ls hl => ?_)
      refine lv_iconst (v := 1) hx hb d_Law_object_13 ic_1 ?_
      cases h
      exact r_iret C0 hP hS d_Law_object_14
    rw [if_neg c107] at h
    cases h
/-! AllocationProfilerLaw.count -/
theorem d_Law_count_0 : decode b_Law_count 0 = .ok (.aload 4, 2) := by decide +kernel
theorem d_Law_count_2 : decode b_Law_count 2 = .ok (.iconst 0, 1) := by decide +kernel
theorem d_Law_count_3 : decode b_Law_count 3 = .ok (.aload_n 0, 1) := by decide +kernel
theorem d_Law_count_4 : decode b_Law_count 4 = .ok (.iload_n 1, 1) := by decide +kernel
theorem d_Law_count_5 : decode b_Law_count 5 = .ok (.iload_n 2, 1) := by decide +kernel
theorem d_Law_count_6 : decode b_Law_count 6 = .ok (.iload_n 3, 1) := by decide +kernel
theorem d_Law_count_7 : decode b_Law_count 7 = .ok (.invokevirtual 70, 3) := by decide +kernel
theorem d_Law_count_10 : decode b_Law_count 10 = .ok (.lastore, 1) := by decide +kernel
theorem d_Law_count_11 : decode b_Law_count 11 = .ok (.goto 11, 3) := by decide +kernel
theorem d_Law_count_14 : decode b_Law_count 14 = .ok (.astore 5, 2) := by decide +kernel
theorem d_Law_count_16 : decode b_Law_count 16 = .ok (.iconst 1, 1) := by decide +kernel
theorem d_Law_count_17 : decode b_Law_count 17 = .ok (.ireturn, 1) := by decide +kernel
theorem d_Law_count_18 : decode b_Law_count 18 = .ok (.astore 5, 2) := by decide +kernel
theorem d_Law_count_20 : decode b_Law_count 20 = .ok (.iconst 2, 1) := by decide +kernel
theorem d_Law_count_21 : decode b_Law_count 21 = .ok (.ireturn, 1) := by decide +kernel
theorem d_Law_count_22 : decode b_Law_count 22 = .ok (.iconst 0, 1) := by decide +kernel
theorem d_Law_count_23 : decode b_Law_count 23 = .ok (.ireturn, 1) := by decide +kernel
def hh_Law_count : List (Nat × Nat × Nat × Nat) := [(0, 11, 14, 13), (0, 11, 18, 52)]
def f_Law_count (x0 : Nat) (x1 : Int32) (x2 : Int32) (x3 : Int32) (x4 : Nat) (M : fm_M) : Option (Int32 × fm_M) :=
  (ck x0 9).bind fun _ =>
  lt (f_AP_count x0 x1 x2 x3 M) (fun x104 M103 =>
    (sj x4 0 x104 M103).bind fun M105 =>
    some (0, M105)) (fun E9 M103 =>
    if E9 = "java/lang/IllegalArgumentException" then
      some (1, M103)
    else
    if E9 = "java/util/NoSuchElementException" then
      some (2, M103)
    else
      none)
set_option maxHeartbeats 4000000 in
set_option maxRecDepth 100000 in
theorem c_Law_count (l : Launch) (hst : l.stackTraces = false) (G : fm_G) (x0 : Nat) (x1 : Int32) (x2 : Int32) (x3 : Int32) (x4 : Nat) {v : Int32} {M M' : fm_M} (h : f_Law_count x0 x1 x2 x3 x4 M = some (v, M')) : lMet l y_Law_count b_Law_count 6 (some .int) [(0, 11, 14, 13), (0, 11, 18, 52)] 8 134 G M [.ref (G.2.2 + x0), .int x1, .int x2, .int x3, .ref (G.2.2 + x4)] (some (.int v)) M' := by
  refine l_met hst (by decide) rfl (Nat.le_of_ble_eq_true rfl) (fun p e s m args below meth c C0 C1 hP ls hl => ?_)
  have hx := C0.1
  have hb := C0.2.1
  have hl : lv_has ls 6 [(0, .ref (G.2.2 + x0)), (1, .int x1), (2, .int x2), (3, .int x3), (4, .ref (G.2.2 + x4))] := hl
  have hS : va_S (fm_A G.2.2) s.heap s.heap [] := va_S.rf
  unfold f_Law_count at h
  refine lv_aload hx hb d_Law_count_0 (lv_at hl 4 rfl) ?_
  refine lv_iconst (v := 0) hx hb d_Law_count_2 ic_0 ?_
  refine lv_aload_n hx hb d_Law_count_3 rfl (lv_at hl 0 rfl) ?_
  refine lv_iload_n hx hb d_Law_count_4 rfl (lv_at hl 1 rfl) ?_
  refine lv_iload_n hx hb d_Law_count_5 rfl (lv_at hl 2 rfl) ?_
  refine lv_iload_n hx hb d_Law_count_6 rfl (lv_at hl 3 rfl) ?_
  obtain ⟨_, e101, h⟩ := ob h
  rcases ob4 h with ⟨x104, M103, e102, h⟩ | ⟨E9, M103, e102, h⟩
  · refine x_back1 (x_runV (o := .inl (some (.long x104))) C0 C1.2.1 L_Law_70 (As := [.int x1, .int x2, .int x3]) (c_AP_count (v := .inl x104) l C1.1 G x0 x1 x2 x3 e102) ⟨Nat.le_of_ble_eq_true rfl, Nat.le_of_ble_eq_true rfl⟩ hP hS (ck_of e101) ly_AP rfl hl.1 rfl (Nat.le_of_ble_eq_true rfl) d_Law_count_7 ⟨Nat.zero_le _, Nat.zero_le _⟩) hS (fun H locs hP hS => ?_)
    obtain ⟨M105, e106, h⟩ := ob h
    refine k_sj C0 hP hS e106 d_Law_count_10 (fun H locs hP hS => ?_)
    refine lv_goto (tgt := 22) hx hb d_Law_count_11 (by decide) ?_
    refine lv_iconst (v := 0) hx hb d_Law_count_22 ic_0 ?_
    refine W.widen (k := 1) (n := 6) (Nat.zero_le _) (Nat.zero_le _) ?_
    cases h
    exact r_iret C0 hP hS d_Law_count_23
  · by_cases c107 : E9 = "java/lang/IllegalArgumentException"
    · rw [if_pos c107] at h
      subst c107
      refine x_thrown (x_runV (o := .inr _) C0 C1.2.1 L_Law_70 (As := [.int x1, .int x2, .int x3]) (c_AP_count (v := .inr _) l C1.1 G x0 x1 x2 x3 e102) ⟨Nat.le_of_ble_eq_true rfl, Nat.le_of_ble_eq_true rfl⟩ hP hS (ck_of e101) ly_AP rfl hl.1 rfl (Nat.le_of_ble_eq_true rfl) d_Law_count_7 ⟨Nat.le_refl 1, Nat.le_refl 6⟩) hS (fun H locs q9 ce hP hS g1 g2 g3 => ?_)
      refine l_c1 C0 C1 (by decide) (by decide) (gT_in 323 (by decide +kernel) rfl) (by decide) g1 g2 g3 ?_
      refine lv_astore (lv' := [(5, .ref q9), (0, .ref (G.2.2 + x0)), (1, .int x1), (2, .int x2), (3, .int x3), (4, .ref (G.2.2 + x4))]) hx hb d_Law_count_14 hl (by decide) rfl (fun ls hl => ?_)
      refine lv_iconst (v := 1) hx hb d_Law_count_16 ic_1 ?_
      cases h
      exact r_iret C0 hP hS d_Law_count_17
    rw [if_neg c107] at h
    by_cases c108 : E9 = "java/util/NoSuchElementException"
    · rw [if_pos c108] at h
      subst c108
      refine x_thrown (x_runV (o := .inr _) C0 C1.2.1 L_Law_70 (As := [.int x1, .int x2, .int x3]) (c_AP_count (v := .inr _) l C1.1 G x0 x1 x2 x3 e102) ⟨Nat.le_of_ble_eq_true rfl, Nat.le_of_ble_eq_true rfl⟩ hP hS (ck_of e101) ly_AP rfl hl.1 rfl (Nat.le_of_ble_eq_true rfl) d_Law_count_7 ⟨Nat.le_refl 1, Nat.le_refl 6⟩) hS (fun H locs q9 ce hP hS g1 g2 g3 => ?_)
      refine l_c2 (E1 := "java/lang/IllegalArgumentException") C0 C1 (by decide) (by decide) (gT_in 323 (by decide +kernel) rfl) (by decide) (by decide) (by decide) (gT_in 678 (by decide +kernel) rfl) (by decide) g1 g2 g3 ?_
      refine lv_astore (lv' := [(5, .ref q9), (0, .ref (G.2.2 + x0)), (1, .int x1), (2, .int x2), (3, .int x3), (4, .ref (G.2.2 + x4))]) hx hb d_Law_count_18 hl (by decide) rfl (fun ls hl => ?_)
      refine lv_iconst (v := 2) hx hb d_Law_count_20 ic_2 ?_
      cases h
      exact r_iret C0 hP hS d_Law_count_21
    rw [if_neg c108] at h
    cases h
/-! AllocationProfilerLaw.entry -/
theorem d_Law_entry_0 : decode b_Law_entry 0 = .ok (.aload_n 3, 1) := by decide +kernel
theorem d_Law_entry_1 : decode b_Law_entry 1 = .ok (.iconst 0, 1) := by decide +kernel
theorem d_Law_entry_2 : decode b_Law_entry 2 = .ok (.aload_n 0, 1) := by decide +kernel
theorem d_Law_entry_3 : decode b_Law_entry 3 = .ok (.iload_n 1, 1) := by decide +kernel
theorem d_Law_entry_4 : decode b_Law_entry 4 = .ok (.iload_n 2, 1) := by decide +kernel
theorem d_Law_entry_5 : decode b_Law_entry 5 = .ok (.invokevirtual 74, 3) := by decide +kernel
theorem d_Law_entry_8 : decode b_Law_entry 8 = .ok (.i2l, 1) := by decide +kernel
theorem d_Law_entry_9 : decode b_Law_entry 9 = .ok (.lastore, 1) := by decide +kernel
theorem d_Law_entry_10 : decode b_Law_entry 10 = .ok (.goto 11, 3) := by decide +kernel
theorem d_Law_entry_13 : decode b_Law_entry 13 = .ok (.astore 4, 2) := by decide +kernel
theorem d_Law_entry_15 : decode b_Law_entry 15 = .ok (.iconst 1, 1) := by decide +kernel
theorem d_Law_entry_16 : decode b_Law_entry 16 = .ok (.ireturn, 1) := by decide +kernel
theorem d_Law_entry_17 : decode b_Law_entry 17 = .ok (.astore 4, 2) := by decide +kernel
theorem d_Law_entry_19 : decode b_Law_entry 19 = .ok (.iconst 2, 1) := by decide +kernel
theorem d_Law_entry_20 : decode b_Law_entry 20 = .ok (.ireturn, 1) := by decide +kernel
theorem d_Law_entry_21 : decode b_Law_entry 21 = .ok (.iconst 0, 1) := by decide +kernel
theorem d_Law_entry_22 : decode b_Law_entry 22 = .ok (.ireturn, 1) := by decide +kernel
def hh_Law_entry : List (Nat × Nat × Nat × Nat) := [(0, 10, 13, 13), (0, 10, 17, 47)]
def f_Law_entry (x0 : Nat) (x1 : Int32) (x2 : Int32) (x3 : Nat) (M : fm_M) : Option (Int32 × fm_M) :=
  (ck x0 9).bind fun _ =>
  lt (f_AP_entry x0 x1 x2 M) (fun x104 M103 =>
    (sj x3 0 x104.toInt64 M103).bind fun M105 =>
    some (0, M105)) (fun E9 M103 =>
    if E9 = "java/lang/IllegalArgumentException" then
      some (1, M103)
    else
    if E9 = "java/lang/IndexOutOfBoundsException" then
      some (2, M103)
    else
      none)
set_option maxHeartbeats 4000000 in
set_option maxRecDepth 100000 in
theorem c_Law_entry (l : Launch) (hst : l.stackTraces = false) (G : fm_G) (x0 : Nat) (x1 : Int32) (x2 : Int32) (x3 : Nat) {v : Int32} {M M' : fm_M} (h : f_Law_entry x0 x1 x2 x3 M = some (v, M')) : lMet l y_Law_entry b_Law_entry 5 (some .int) [(0, 10, 13, 13), (0, 10, 17, 47)] 7 112 G M [.ref (G.2.2 + x0), .int x1, .int x2, .ref (G.2.2 + x3)] (some (.int v)) M' := by
  refine l_met hst (by decide) rfl (Nat.le_of_ble_eq_true rfl) (fun p e s m args below meth c C0 C1 hP ls hl => ?_)
  have hx := C0.1
  have hb := C0.2.1
  have hl : lv_has ls 5 [(0, .ref (G.2.2 + x0)), (1, .int x1), (2, .int x2), (3, .ref (G.2.2 + x3))] := hl
  have hS : va_S (fm_A G.2.2) s.heap s.heap [] := va_S.rf
  unfold f_Law_entry at h
  refine lv_aload_n hx hb d_Law_entry_0 rfl (lv_at hl 3 rfl) ?_
  refine lv_iconst (v := 0) hx hb d_Law_entry_1 ic_0 ?_
  refine lv_aload_n hx hb d_Law_entry_2 rfl (lv_at hl 0 rfl) ?_
  refine lv_iload_n hx hb d_Law_entry_3 rfl (lv_at hl 1 rfl) ?_
  refine lv_iload_n hx hb d_Law_entry_4 rfl (lv_at hl 2 rfl) ?_
  obtain ⟨_, e101, h⟩ := ob h
  rcases ob4 h with ⟨x104, M103, e102, h⟩ | ⟨E9, M103, e102, h⟩
  · refine x_back1 (x_runV (o := .inl (some (.int x104))) C0 C1.2.1 L_Law_74 (As := [.int x1, .int x2]) (c_AP_entry (v := .inl x104) l C1.1 G x0 x1 x2 e102) ⟨Nat.le_of_ble_eq_true rfl, Nat.le_of_ble_eq_true rfl⟩ hP hS (ck_of e101) ly_AP rfl hl.1 rfl (Nat.le_of_ble_eq_true rfl) d_Law_entry_5 ⟨Nat.zero_le _, Nat.zero_le _⟩) hS (fun H locs hP hS => ?_)
    refine lv_i2l hx hb d_Law_entry_8 rfl ?_
    obtain ⟨M105, e106, h⟩ := ob h
    refine k_sj C0 hP hS e106 d_Law_entry_9 (fun H locs hP hS => ?_)
    refine lv_goto (tgt := 21) hx hb d_Law_entry_10 (by decide) ?_
    refine lv_iconst (v := 0) hx hb d_Law_entry_21 ic_0 ?_
    refine W.widen (k := 1) (n := 6) (Nat.zero_le _) (Nat.zero_le _) ?_
    cases h
    exact r_iret C0 hP hS d_Law_entry_22
  · by_cases c107 : E9 = "java/lang/IllegalArgumentException"
    · rw [if_pos c107] at h
      subst c107
      refine x_thrown (x_runV (o := .inr _) C0 C1.2.1 L_Law_74 (As := [.int x1, .int x2]) (c_AP_entry (v := .inr _) l C1.1 G x0 x1 x2 e102) ⟨Nat.le_of_ble_eq_true rfl, Nat.le_of_ble_eq_true rfl⟩ hP hS (ck_of e101) ly_AP rfl hl.1 rfl (Nat.le_of_ble_eq_true rfl) d_Law_entry_5 ⟨Nat.le_refl 1, Nat.le_refl 6⟩) hS (fun H locs q9 ce hP hS g1 g2 g3 => ?_)
      refine l_c1 C0 C1 (by decide) (by decide) (gT_in 323 (by decide +kernel) rfl) (by decide) g1 g2 g3 ?_
      refine lv_astore (lv' := [(4, .ref q9), (0, .ref (G.2.2 + x0)), (1, .int x1), (2, .int x2), (3, .ref (G.2.2 + x3))]) hx hb d_Law_entry_13 hl (by decide) rfl (fun ls hl => ?_)
      refine lv_iconst (v := 1) hx hb d_Law_entry_15 ic_1 ?_
      cases h
      exact r_iret C0 hP hS d_Law_entry_16
    rw [if_neg c107] at h
    by_cases c108 : E9 = "java/lang/IndexOutOfBoundsException"
    · rw [if_pos c108] at h
      subst c108
      refine x_thrown (x_runV (o := .inr _) C0 C1.2.1 L_Law_74 (As := [.int x1, .int x2]) (c_AP_entry (v := .inr _) l C1.1 G x0 x1 x2 e102) ⟨Nat.le_of_ble_eq_true rfl, Nat.le_of_ble_eq_true rfl⟩ hP hS (ck_of e101) ly_AP rfl hl.1 rfl (Nat.le_of_ble_eq_true rfl) d_Law_entry_5 ⟨Nat.le_refl 1, Nat.le_refl 6⟩) hS (fun H locs q9 ce hP hS g1 g2 g3 => ?_)
      refine l_c2 (E1 := "java/lang/IllegalArgumentException") C0 C1 (by decide) (by decide) (gT_in 323 (by decide +kernel) rfl) (by decide) (by decide) (by decide) (gT_in 641 (by decide +kernel) rfl) (by decide) g1 g2 g3 ?_
      refine lv_astore (lv' := [(4, .ref q9), (0, .ref (G.2.2 + x0)), (1, .int x1), (2, .int x2), (3, .ref (G.2.2 + x3))]) hx hb d_Law_entry_17 hl (by decide) rfl (fun ls hl => ?_)
      refine lv_iconst (v := 2) hx hb d_Law_entry_19 ic_2 ?_
      cases h
      exact r_iret C0 hP hS d_Law_entry_20
    rw [if_neg c108] at h
    cases h
/-! AllocationProfilerLaw.rate -/
theorem d_Law_rate_0 : decode b_Law_rate 0 = .ok (.aload_n 2, 1) := by decide +kernel
theorem d_Law_rate_1 : decode b_Law_rate 1 = .ok (.iconst 0, 1) := by decide +kernel
theorem d_Law_rate_2 : decode b_Law_rate 2 = .ok (.aload_n 0, 1) := by decide +kernel
theorem d_Law_rate_3 : decode b_Law_rate 3 = .ok (.iload_n 1, 1) := by decide +kernel
theorem d_Law_rate_4 : decode b_Law_rate 4 = .ok (.invokevirtual 77, 3) := by decide +kernel
theorem d_Law_rate_7 : decode b_Law_rate 7 = .ok (.f2d, 1) := by decide +kernel
theorem d_Law_rate_8 : decode b_Law_rate 8 = .ok (.dastore, 1) := by decide +kernel
theorem d_Law_rate_9 : decode b_Law_rate 9 = .ok (.goto 6, 3) := by decide +kernel
theorem d_Law_rate_12 : decode b_Law_rate 12 = .ok (.astore_n 3, 1) := by decide +kernel
theorem d_Law_rate_13 : decode b_Law_rate 13 = .ok (.iconst 1, 1) := by decide +kernel
theorem d_Law_rate_14 : decode b_Law_rate 14 = .ok (.ireturn, 1) := by decide +kernel
theorem d_Law_rate_15 : decode b_Law_rate 15 = .ok (.iconst 0, 1) := by decide +kernel
theorem d_Law_rate_16 : decode b_Law_rate 16 = .ok (.ireturn, 1) := by decide +kernel
def hh_Law_rate : List (Nat × Nat × Nat × Nat) := [(0, 9, 12, 13)]
def f_Law_rate (x0 : Nat) (x1 : Int32) (x2 : Nat) (M : fm_M) : Option (Int32 × fm_M) :=
  (ck x0 9).bind fun _ =>
  lt (f_AP_rate x0 x1 M) (fun x104 M103 =>
    (nn64 (FP.f2d x104)).bind fun _ =>
    (sd x2 0 (FP.f2d x104) M103).bind fun M106 =>
    some (0, M106)) (fun E9 M103 =>
    if E9 = "java/lang/IllegalArgumentException" then
      some (1, M103)
    else
      none)
set_option maxHeartbeats 4000000 in
set_option maxRecDepth 100000 in
theorem c_Law_rate (l : Launch) (hst : l.stackTraces = false) (G : fm_G) (x0 : Nat) (x1 : Int32) (x2 : Nat) {v : Int32} {M M' : fm_M} (h : f_Law_rate x0 x1 x2 M = some (v, M')) : lMet l y_Law_rate b_Law_rate 4 (some .int) [(0, 9, 12, 13)] 8 132 G M [.ref (G.2.2 + x0), .int x1, .ref (G.2.2 + x2)] (some (.int v)) M' := by
  refine l_met hst (by decide) rfl (Nat.le_of_ble_eq_true rfl) (fun p e s m args below meth c C0 C1 hP ls hl => ?_)
  have hx := C0.1
  have hb := C0.2.1
  have hl : lv_has ls 4 [(0, .ref (G.2.2 + x0)), (1, .int x1), (2, .ref (G.2.2 + x2))] := hl
  have hS : va_S (fm_A G.2.2) s.heap s.heap [] := va_S.rf
  unfold f_Law_rate at h
  refine lv_aload_n hx hb d_Law_rate_0 rfl (lv_at hl 2 rfl) ?_
  refine lv_iconst (v := 0) hx hb d_Law_rate_1 ic_0 ?_
  refine lv_aload_n hx hb d_Law_rate_2 rfl (lv_at hl 0 rfl) ?_
  refine lv_iload_n hx hb d_Law_rate_3 rfl (lv_at hl 1 rfl) ?_
  obtain ⟨_, e101, h⟩ := ob h
  rcases ob4 h with ⟨x104, M103, e102, h⟩ | ⟨E9, M103, e102, h⟩
  · refine x_back1 (x_runV (o := .inl (some (.float x104))) C0 C1.2.1 L_Law_77 (As := [.int x1]) (c_AP_rate (v := .inl x104) l C1.1 G x0 x1 e102) ⟨Nat.le_of_ble_eq_true rfl, Nat.le_of_ble_eq_true rfl⟩ hP hS (ck_of e101) ly_AP rfl hl.1 rfl (Nat.le_of_ble_eq_true rfl) d_Law_rate_4 ⟨Nat.zero_le _, Nat.zero_le _⟩) hS (fun H locs hP hS => ?_)
    obtain ⟨_, e105, h⟩ := ob h
    refine lv_f2d hx hb d_Law_rate_7 (nn64_of e105) ?_
    obtain ⟨M106, e107, h⟩ := ob h
    refine k_sd C0 hP hS e107 d_Law_rate_8 (fun H locs hP hS => ?_)
    refine lv_goto (tgt := 15) hx hb d_Law_rate_9 (by decide) ?_
    refine lv_iconst (v := 0) hx hb d_Law_rate_15 ic_0 ?_
    refine W.widen (k := 1) (n := 6) (Nat.zero_le _) (Nat.zero_le _) ?_
    cases h
    exact r_iret C0 hP hS d_Law_rate_16
  · by_cases c108 : E9 = "java/lang/IllegalArgumentException"
    · rw [if_pos c108] at h
      subst c108
      refine x_thrown (x_runV (o := .inr _) C0 C1.2.1 L_Law_77 (As := [.int x1]) (c_AP_rate (v := .inr _) l C1.1 G x0 x1 e102) ⟨Nat.le_of_ble_eq_true rfl, Nat.le_of_ble_eq_true rfl⟩ hP hS (ck_of e101) ly_AP rfl hl.1 rfl (Nat.le_of_ble_eq_true rfl) d_Law_rate_4 ⟨Nat.le_refl 1, Nat.le_refl 6⟩) hS (fun H locs q9 ce hP hS g1 g2 g3 => ?_)
      refine l_c1 C0 C1 (by decide) (by decide) (gT_in 323 (by decide +kernel) rfl) (by decide) g1 g2 g3 ?_
      refine lv_astore_n (lv' := [(3, .ref q9), (0, .ref (G.2.2 + x0)), (1, .int x1), (2, .ref (G.2.2 + x2))]) hx hb d_Law_rate_12 rfl hl (by decide) rfl (fun ls hl => ?_)
      refine lv_iconst (v := 1) hx hb d_Law_rate_13 ic_1 ?_
      cases h
      exact r_iret C0 hP hS d_Law_rate_14
    rw [if_neg c108] at h
    cases h
/-! AllocationProfilerLaw.share -/
theorem d_Law_share_0 : decode b_Law_share 0 = .ok (.aload_n 2, 1) := by decide +kernel
theorem d_Law_share_1 : decode b_Law_share 1 = .ok (.iconst 0, 1) := by decide +kernel
theorem d_Law_share_2 : decode b_Law_share 2 = .ok (.aload_n 0, 1) := by decide +kernel
theorem d_Law_share_3 : decode b_Law_share 3 = .ok (.iload_n 1, 1) := by decide +kernel
theorem d_Law_share_4 : decode b_Law_share 4 = .ok (.invokevirtual 81, 3) := by decide +kernel
theorem d_Law_share_7 : decode b_Law_share 7 = .ok (.f2d, 1) := by decide +kernel
theorem d_Law_share_8 : decode b_Law_share 8 = .ok (.dastore, 1) := by decide +kernel
theorem d_Law_share_9 : decode b_Law_share 9 = .ok (.goto 6, 3) := by decide +kernel
theorem d_Law_share_12 : decode b_Law_share 12 = .ok (.astore_n 3, 1) := by decide +kernel
theorem d_Law_share_13 : decode b_Law_share 13 = .ok (.iconst 1, 1) := by decide +kernel
theorem d_Law_share_14 : decode b_Law_share 14 = .ok (.ireturn, 1) := by decide +kernel
theorem d_Law_share_15 : decode b_Law_share 15 = .ok (.iconst 0, 1) := by decide +kernel
theorem d_Law_share_16 : decode b_Law_share 16 = .ok (.ireturn, 1) := by decide +kernel
def hh_Law_share : List (Nat × Nat × Nat × Nat) := [(0, 9, 12, 13)]
def f_Law_share (x0 : Nat) (x1 : Int32) (x2 : Nat) (M : fm_M) : Option (Int32 × fm_M) :=
  (ck x0 9).bind fun _ =>
  lt (f_AP_share x0 x1 M) (fun x104 M103 =>
    (nn64 (FP.f2d x104)).bind fun _ =>
    (sd x2 0 (FP.f2d x104) M103).bind fun M106 =>
    some (0, M106)) (fun E9 M103 =>
    if E9 = "java/lang/IllegalArgumentException" then
      some (1, M103)
    else
      none)
set_option maxHeartbeats 4000000 in
set_option maxRecDepth 100000 in
theorem c_Law_share (l : Launch) (hst : l.stackTraces = false) (G : fm_G) (x0 : Nat) (x1 : Int32) (x2 : Nat) {v : Int32} {M M' : fm_M} (h : f_Law_share x0 x1 x2 M = some (v, M')) : lMet l y_Law_share b_Law_share 4 (some .int) [(0, 9, 12, 13)] 8 132 G M [.ref (G.2.2 + x0), .int x1, .ref (G.2.2 + x2)] (some (.int v)) M' := by
  refine l_met hst (by decide) rfl (Nat.le_of_ble_eq_true rfl) (fun p e s m args below meth c C0 C1 hP ls hl => ?_)
  have hx := C0.1
  have hb := C0.2.1
  have hl : lv_has ls 4 [(0, .ref (G.2.2 + x0)), (1, .int x1), (2, .ref (G.2.2 + x2))] := hl
  have hS : va_S (fm_A G.2.2) s.heap s.heap [] := va_S.rf
  unfold f_Law_share at h
  refine lv_aload_n hx hb d_Law_share_0 rfl (lv_at hl 2 rfl) ?_
  refine lv_iconst (v := 0) hx hb d_Law_share_1 ic_0 ?_
  refine lv_aload_n hx hb d_Law_share_2 rfl (lv_at hl 0 rfl) ?_
  refine lv_iload_n hx hb d_Law_share_3 rfl (lv_at hl 1 rfl) ?_
  obtain ⟨_, e101, h⟩ := ob h
  rcases ob4 h with ⟨x104, M103, e102, h⟩ | ⟨E9, M103, e102, h⟩
  · refine x_back1 (x_runV (o := .inl (some (.float x104))) C0 C1.2.1 L_Law_81 (As := [.int x1]) (c_AP_share (v := .inl x104) l C1.1 G x0 x1 e102) ⟨Nat.le_of_ble_eq_true rfl, Nat.le_of_ble_eq_true rfl⟩ hP hS (ck_of e101) ly_AP rfl hl.1 rfl (Nat.le_of_ble_eq_true rfl) d_Law_share_4 ⟨Nat.zero_le _, Nat.zero_le _⟩) hS (fun H locs hP hS => ?_)
    obtain ⟨_, e105, h⟩ := ob h
    refine lv_f2d hx hb d_Law_share_7 (nn64_of e105) ?_
    obtain ⟨M106, e107, h⟩ := ob h
    refine k_sd C0 hP hS e107 d_Law_share_8 (fun H locs hP hS => ?_)
    refine lv_goto (tgt := 15) hx hb d_Law_share_9 (by decide) ?_
    refine lv_iconst (v := 0) hx hb d_Law_share_15 ic_0 ?_
    refine W.widen (k := 1) (n := 6) (Nat.zero_le _) (Nat.zero_le _) ?_
    cases h
    exact r_iret C0 hP hS d_Law_share_16
  · by_cases c108 : E9 = "java/lang/IllegalArgumentException"
    · rw [if_pos c108] at h
      subst c108
      refine x_thrown (x_runV (o := .inr _) C0 C1.2.1 L_Law_81 (As := [.int x1]) (c_AP_share (v := .inr _) l C1.1 G x0 x1 e102) ⟨Nat.le_of_ble_eq_true rfl, Nat.le_of_ble_eq_true rfl⟩ hP hS (ck_of e101) ly_AP rfl hl.1 rfl (Nat.le_of_ble_eq_true rfl) d_Law_share_4 ⟨Nat.le_refl 1, Nat.le_refl 6⟩) hS (fun H locs q9 ce hP hS g1 g2 g3 => ?_)
      refine l_c1 C0 C1 (by decide) (by decide) (gT_in 323 (by decide +kernel) rfl) (by decide) g1 g2 g3 ?_
      refine lv_astore_n (lv' := [(3, .ref q9), (0, .ref (G.2.2 + x0)), (1, .int x1), (2, .ref (G.2.2 + x2))]) hx hb d_Law_share_12 rfl hl (by decide) rfl (fun ls hl => ?_)
      refine lv_iconst (v := 1) hx hb d_Law_share_13 ic_1 ?_
      cases h
      exact r_iret C0 hP hS d_Law_share_14
    rw [if_neg c108] at h
    cases h
/-! AllocationProfilerLaw.estimate -/
theorem d_Law_estimate_0 : decode b_Law_estimate 0 = .ok (.aload_n 2, 1) := by decide +kernel
theorem d_Law_estimate_1 : decode b_Law_estimate 1 = .ok (.iconst 0, 1) := by decide +kernel
theorem d_Law_estimate_2 : decode b_Law_estimate 2 = .ok (.aload_n 0, 1) := by decide +kernel
theorem d_Law_estimate_3 : decode b_Law_estimate 3 = .ok (.iload_n 1, 1) := by decide +kernel
theorem d_Law_estimate_4 : decode b_Law_estimate 4 = .ok (.invokevirtual 84, 3) := by decide +kernel
theorem d_Law_estimate_7 : decode b_Law_estimate 7 = .ok (.dastore, 1) := by decide +kernel
theorem d_Law_estimate_8 : decode b_Law_estimate 8 = .ok (.goto 6, 3) := by decide +kernel
theorem d_Law_estimate_11 : decode b_Law_estimate 11 = .ok (.astore_n 3, 1) := by decide +kernel
theorem d_Law_estimate_12 : decode b_Law_estimate 12 = .ok (.iconst 1, 1) := by decide +kernel
theorem d_Law_estimate_13 : decode b_Law_estimate 13 = .ok (.ireturn, 1) := by decide +kernel
theorem d_Law_estimate_14 : decode b_Law_estimate 14 = .ok (.iconst 0, 1) := by decide +kernel
theorem d_Law_estimate_15 : decode b_Law_estimate 15 = .ok (.ireturn, 1) := by decide +kernel
def hh_Law_estimate : List (Nat × Nat × Nat × Nat) := [(0, 8, 11, 13)]
def f_Law_estimate (x0 : Nat) (x1 : Int32) (x2 : Nat) (M : fm_M) : Option (Int32 × fm_M) :=
  (ck x0 9).bind fun _ =>
  lt (f_AP_estimate x0 x1 M) (fun x104 M103 =>
    (sd x2 0 x104 M103).bind fun M105 =>
    some (0, M105)) (fun E9 M103 =>
    if E9 = "java/lang/IllegalArgumentException" then
      some (1, M103)
    else
      none)
set_option maxHeartbeats 4000000 in
set_option maxRecDepth 100000 in
theorem c_Law_estimate (l : Launch) (hst : l.stackTraces = false) (G : fm_G) (x0 : Nat) (x1 : Int32) (x2 : Nat) {v : Int32} {M M' : fm_M} (h : f_Law_estimate x0 x1 x2 M = some (v, M')) : lMet l y_Law_estimate b_Law_estimate 4 (some .int) [(0, 8, 11, 13)] 8 132 G M [.ref (G.2.2 + x0), .int x1, .ref (G.2.2 + x2)] (some (.int v)) M' := by
  refine l_met hst (by decide) rfl (Nat.le_of_ble_eq_true rfl) (fun p e s m args below meth c C0 C1 hP ls hl => ?_)
  have hx := C0.1
  have hb := C0.2.1
  have hl : lv_has ls 4 [(0, .ref (G.2.2 + x0)), (1, .int x1), (2, .ref (G.2.2 + x2))] := hl
  have hS : va_S (fm_A G.2.2) s.heap s.heap [] := va_S.rf
  unfold f_Law_estimate at h
  refine lv_aload_n hx hb d_Law_estimate_0 rfl (lv_at hl 2 rfl) ?_
  refine lv_iconst (v := 0) hx hb d_Law_estimate_1 ic_0 ?_
  refine lv_aload_n hx hb d_Law_estimate_2 rfl (lv_at hl 0 rfl) ?_
  refine lv_iload_n hx hb d_Law_estimate_3 rfl (lv_at hl 1 rfl) ?_
  obtain ⟨_, e101, h⟩ := ob h
  rcases ob4 h with ⟨x104, M103, e102, h⟩ | ⟨E9, M103, e102, h⟩
  · refine x_back1 (x_runV (o := .inl (some (.double x104))) C0 C1.2.1 L_Law_84 (As := [.int x1]) (c_AP_estimate (v := .inl x104) l C1.1 G x0 x1 e102) ⟨Nat.le_of_ble_eq_true rfl, Nat.le_of_ble_eq_true rfl⟩ hP hS (ck_of e101) ly_AP rfl hl.1 rfl (Nat.le_of_ble_eq_true rfl) d_Law_estimate_4 ⟨Nat.zero_le _, Nat.zero_le _⟩) hS (fun H locs hP hS => ?_)
    obtain ⟨M105, e106, h⟩ := ob h
    refine k_sd C0 hP hS e106 d_Law_estimate_7 (fun H locs hP hS => ?_)
    refine lv_goto (tgt := 14) hx hb d_Law_estimate_8 (by decide) ?_
    refine lv_iconst (v := 0) hx hb d_Law_estimate_14 ic_0 ?_
    refine W.widen (k := 1) (n := 6) (Nat.zero_le _) (Nat.zero_le _) ?_
    cases h
    exact r_iret C0 hP hS d_Law_estimate_15
  · by_cases c107 : E9 = "java/lang/IllegalArgumentException"
    · rw [if_pos c107] at h
      subst c107
      refine x_thrown (x_runV (o := .inr _) C0 C1.2.1 L_Law_84 (As := [.int x1]) (c_AP_estimate (v := .inr _) l C1.1 G x0 x1 e102) ⟨Nat.le_of_ble_eq_true rfl, Nat.le_of_ble_eq_true rfl⟩ hP hS (ck_of e101) ly_AP rfl hl.1 rfl (Nat.le_of_ble_eq_true rfl) d_Law_estimate_4 ⟨Nat.le_refl 1, Nat.le_refl 6⟩) hS (fun H locs q9 ce hP hS g1 g2 g3 => ?_)
      refine l_c1 C0 C1 (by decide) (by decide) (gT_in 323 (by decide +kernel) rfl) (by decide) g1 g2 g3 ?_
      refine lv_astore_n (lv' := [(3, .ref q9), (0, .ref (G.2.2 + x0)), (1, .int x1), (2, .ref (G.2.2 + x2))]) hx hb d_Law_estimate_11 rfl hl (by decide) rfl (fun ls hl => ?_)
      refine lv_iconst (v := 1) hx hb d_Law_estimate_12 ic_1 ?_
      cases h
      exact r_iret C0 hP hS d_Law_estimate_13
    rw [if_neg c107] at h
    cases h
/-! AllocationProfilerLaw.rounded -/
theorem d_Law_rounded_0 : decode b_Law_rounded 0 = .ok (.aload_n 2, 1) := by decide +kernel
theorem d_Law_rounded_1 : decode b_Law_rounded 1 = .ok (.iconst 0, 1) := by decide +kernel
theorem d_Law_rounded_2 : decode b_Law_rounded 2 = .ok (.aload_n 0, 1) := by decide +kernel
theorem d_Law_rounded_3 : decode b_Law_rounded 3 = .ok (.iload_n 1, 1) := by decide +kernel
theorem d_Law_rounded_4 : decode b_Law_rounded 4 = .ok (.invokevirtual 88, 3) := by decide +kernel
theorem d_Law_rounded_7 : decode b_Law_rounded 7 = .ok (.lastore, 1) := by decide +kernel
theorem d_Law_rounded_8 : decode b_Law_rounded 8 = .ok (.goto 6, 3) := by decide +kernel
theorem d_Law_rounded_11 : decode b_Law_rounded 11 = .ok (.astore_n 3, 1) := by decide +kernel
theorem d_Law_rounded_12 : decode b_Law_rounded 12 = .ok (.iconst 1, 1) := by decide +kernel
theorem d_Law_rounded_13 : decode b_Law_rounded 13 = .ok (.ireturn, 1) := by decide +kernel
theorem d_Law_rounded_14 : decode b_Law_rounded 14 = .ok (.iconst 0, 1) := by decide +kernel
theorem d_Law_rounded_15 : decode b_Law_rounded 15 = .ok (.ireturn, 1) := by decide +kernel
def hh_Law_rounded : List (Nat × Nat × Nat × Nat) := [(0, 8, 11, 13)]
def f_Law_rounded (x0 : Nat) (x1 : Int32) (x2 : Nat) (M : fm_M) : Option (Int32 × fm_M) :=
  (ck x0 9).bind fun _ =>
  lt (f_AP_rounded x0 x1 M) (fun x104 M103 =>
    (sj x2 0 x104 M103).bind fun M105 =>
    some (0, M105)) (fun E9 M103 =>
    if E9 = "java/lang/IllegalArgumentException" then
      some (1, M103)
    else
      none)
set_option maxHeartbeats 4000000 in
set_option maxRecDepth 100000 in
theorem c_Law_rounded (l : Launch) (hst : l.stackTraces = false) (G : fm_G) (x0 : Nat) (x1 : Int32) (x2 : Nat) {v : Int32} {M M' : fm_M} (h : f_Law_rounded x0 x1 x2 M = some (v, M')) : lMet l y_Law_rounded b_Law_rounded 4 (some .int) [(0, 8, 11, 13)] 8 132 G M [.ref (G.2.2 + x0), .int x1, .ref (G.2.2 + x2)] (some (.int v)) M' := by
  refine l_met hst (by decide) rfl (Nat.le_of_ble_eq_true rfl) (fun p e s m args below meth c C0 C1 hP ls hl => ?_)
  have hx := C0.1
  have hb := C0.2.1
  have hl : lv_has ls 4 [(0, .ref (G.2.2 + x0)), (1, .int x1), (2, .ref (G.2.2 + x2))] := hl
  have hS : va_S (fm_A G.2.2) s.heap s.heap [] := va_S.rf
  unfold f_Law_rounded at h
  refine lv_aload_n hx hb d_Law_rounded_0 rfl (lv_at hl 2 rfl) ?_
  refine lv_iconst (v := 0) hx hb d_Law_rounded_1 ic_0 ?_
  refine lv_aload_n hx hb d_Law_rounded_2 rfl (lv_at hl 0 rfl) ?_
  refine lv_iload_n hx hb d_Law_rounded_3 rfl (lv_at hl 1 rfl) ?_
  obtain ⟨_, e101, h⟩ := ob h
  rcases ob4 h with ⟨x104, M103, e102, h⟩ | ⟨E9, M103, e102, h⟩
  · refine x_back1 (x_runV (o := .inl (some (.long x104))) C0 C1.2.1 L_Law_88 (As := [.int x1]) (c_AP_rounded (v := .inl x104) l C1.1 G x0 x1 e102) ⟨Nat.le_of_ble_eq_true rfl, Nat.le_of_ble_eq_true rfl⟩ hP hS (ck_of e101) ly_AP rfl hl.1 rfl (Nat.le_of_ble_eq_true rfl) d_Law_rounded_4 ⟨Nat.zero_le _, Nat.zero_le _⟩) hS (fun H locs hP hS => ?_)
    obtain ⟨M105, e106, h⟩ := ob h
    refine k_sj C0 hP hS e106 d_Law_rounded_7 (fun H locs hP hS => ?_)
    refine lv_goto (tgt := 14) hx hb d_Law_rounded_8 (by decide) ?_
    refine lv_iconst (v := 0) hx hb d_Law_rounded_14 ic_0 ?_
    refine W.widen (k := 1) (n := 6) (Nat.zero_le _) (Nat.zero_le _) ?_
    cases h
    exact r_iret C0 hP hS d_Law_rounded_15
  · by_cases c107 : E9 = "java/lang/IllegalArgumentException"
    · rw [if_pos c107] at h
      subst c107
      refine x_thrown (x_runV (o := .inr _) C0 C1.2.1 L_Law_88 (As := [.int x1]) (c_AP_rounded (v := .inr _) l C1.1 G x0 x1 e102) ⟨Nat.le_of_ble_eq_true rfl, Nat.le_of_ble_eq_true rfl⟩ hP hS (ck_of e101) ly_AP rfl hl.1 rfl (Nat.le_of_ble_eq_true rfl) d_Law_rounded_4 ⟨Nat.le_refl 1, Nat.le_refl 6⟩) hS (fun H locs q9 ce hP hS g1 g2 g3 => ?_)
      refine l_c1 C0 C1 (by decide) (by decide) (gT_in 323 (by decide +kernel) rfl) (by decide) g1 g2 g3 ?_
      refine lv_astore_n (lv' := [(3, .ref q9), (0, .ref (G.2.2 + x0)), (1, .int x1), (2, .ref (G.2.2 + x2))]) hx hb d_Law_rounded_11 rfl hl (by decide) rfl (fun ls hl => ?_)
      refine lv_iconst (v := 1) hx hb d_Law_rounded_12 ic_1 ?_
      cases h
      exact r_iret C0 hP hS d_Law_rounded_13
    rw [if_neg c107] at h
    cases h
