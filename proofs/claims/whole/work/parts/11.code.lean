/-! AllocationProfiler$Heap.make -/
def rm_Heap_make : Room := { frames := 0, cells := 0, slots := 0, locals := 0 }
theorem d_Heap_make_0 : decode b_Heap_make 0 = .ok (.aload_n 0, 1) := by decide +kernel
theorem d_Heap_make_1 : decode b_Heap_make 1 = .ok (.getfield 15, 3) := by decide +kernel
theorem d_Heap_make_4 : decode b_Heap_make 4 = .ok (.sipush 400, 3) := by decide +kernel
theorem d_Heap_make_7 : decode b_Heap_make 7 = .ok (.if_icmp .ge 17, 3) := by decide +kernel
theorem d_Heap_make_10 : decode b_Heap_make 10 = .ok (.lload_n 1, 1) := by decide +kernel
theorem d_Heap_make_11 : decode b_Heap_make 11 = .ok (.lconst 0, 1) := by decide +kernel
theorem d_Heap_make_12 : decode b_Heap_make 12 = .ok (.lcmp, 1) := by decide +kernel
theorem d_Heap_make_13 : decode b_Heap_make 13 = .ok (.ifCond .lt 11, 3) := by decide +kernel
theorem d_Heap_make_16 : decode b_Heap_make 16 = .ok (.lload_n 1, 1) := by decide +kernel
theorem d_Heap_make_17 : decode b_Heap_make 17 = .ok (.ldc2_w 19, 3) := by decide +kernel
theorem d_Heap_make_20 : decode b_Heap_make 20 = .ok (.lcmp, 1) := by decide +kernel
theorem d_Heap_make_21 : decode b_Heap_make 21 = .ok (.ifCond .le 5, 3) := by decide +kernel
theorem d_Heap_make_24 : decode b_Heap_make 24 = .ok (.iconst (-1), 1) := by decide +kernel
theorem d_Heap_make_25 : decode b_Heap_make 25 = .ok (.ireturn, 1) := by decide +kernel
theorem d_Heap_make_26 : decode b_Heap_make 26 = .ok (.aload_n 0, 1) := by decide +kernel
theorem d_Heap_make_27 : decode b_Heap_make 27 = .ok (.getfield 9, 3) := by decide +kernel
theorem d_Heap_make_30 : decode b_Heap_make 30 = .ok (.aload_n 0, 1) := by decide +kernel
theorem d_Heap_make_31 : decode b_Heap_make 31 = .ok (.getfield 15, 3) := by decide +kernel
theorem d_Heap_make_34 : decode b_Heap_make 34 = .ok (.lload_n 1, 1) := by decide +kernel
theorem d_Heap_make_35 : decode b_Heap_make 35 = .ok (.l2i, 1) := by decide +kernel
theorem d_Heap_make_36 : decode b_Heap_make 36 = .ok (.iastore, 1) := by decide +kernel
theorem d_Heap_make_37 : decode b_Heap_make 37 = .ok (.aload_n 0, 1) := by decide +kernel
theorem d_Heap_make_38 : decode b_Heap_make 38 = .ok (.dup, 1) := by decide +kernel
theorem d_Heap_make_39 : decode b_Heap_make 39 = .ok (.getfield 15, 3) := by decide +kernel
theorem d_Heap_make_42 : decode b_Heap_make 42 = .ok (.iconst 1, 1) := by decide +kernel
theorem d_Heap_make_43 : decode b_Heap_make 43 = .ok (.iadd, 1) := by decide +kernel
theorem d_Heap_make_44 : decode b_Heap_make 44 = .ok (.putfield 15, 3) := by decide +kernel
theorem d_Heap_make_47 : decode b_Heap_make 47 = .ok (.aload_n 0, 1) := by decide +kernel
theorem d_Heap_make_48 : decode b_Heap_make 48 = .ok (.getfield 15, 3) := by decide +kernel
theorem d_Heap_make_51 : decode b_Heap_make 51 = .ok (.ireturn, 1) := by decide +kernel
def f_Heap_make (x0 : Nat) (x1 : Int64) (M : fm_M) : Option (Int32 × fm_M) :=
  (gi x0 3 1 M).bind fun x101 =>
  if 400 ≤ x101 then
    some ((-1), M)
  else
    if (lg_cmp x1 0) < 0 then
      some ((-1), M)
    else
      if (lg_cmp x1 100000) ≤ 0 then
        (gr x0 3 0).bind fun q106 =>
        (gi x0 3 1 M).bind fun x108 =>
        (si q106 x108 x1.toInt32 M).bind fun M110 =>
        (gi x0 3 1 M110).bind fun x112 =>
        (pi x0 3 1 (x112 + 1) M110).bind fun M114 =>
        (gi x0 3 1 M114).bind fun x116 =>
        some (x116, M114)
      else
        some ((-1), M)
set_option maxHeartbeats 4000000 in
set_option maxRecDepth 100000 in
theorem c_Heap_make (l : Launch) (G : fm_G) (x0 : Nat) (x1 : Int64) {v : Int32} {M M' : fm_M} (h : f_Heap_make x0 x1 M = some (v, M')) : kMet l y_Heap_make b_Heap_make 3 (some .int) rm_Heap_make G M [.ref (G.2.2 + x0), .long x1] (some (.int v)) M' := by
  refine r_met (by decide) rfl (Nat.le_of_ble_eq_true rfl) (fun p e s m args below meth c C0 hP ls hl => ?_)
  have hx := C0.1
  have hb := C0.2.1
  have hown := C0.2.2.2.2.1
  have hts := C0.2.2.2.2.2.1
  have hl : lv_has ls 3 [(0, .ref (G.2.2 + x0)), (1, .long x1)] := hl
  have hS : va_S (fm_A G.2.2) s.heap s.heap [] := va_S.rf
  unfold f_Heap_make at h
  refine lv_aload_n hx hb d_Heap_make_0 rfl (lv_at hl 0 rfl) ?_
  obtain ⟨x101, e102, h⟩ := ob h
  refine k_gi C0 F_Heap_15 ik_3_1 hP e102 d_Heap_make_1 ?_
  refine lv_sipush (v := 400) hx hb d_Heap_make_4 sp_400 ?_
  refine lv_icmp_ge (tgt := 24) hx hb d_Heap_make_7 (by decide) (fun c103 => ?_) (fun c103 => ?_)
  · rw [if_pos c103] at h
    refine lv_iconst (v := (-1)) hx hb d_Heap_make_24 ic_m1 ?_
    cases h
    exact r_iret C0 hP hS d_Heap_make_25
  · rw [if_neg c103] at h
    refine lv_lload_n hx hb d_Heap_make_10 rfl (lv_at hl 1 rfl) ?_
    refine lv_lconst (v := 0) hx hb d_Heap_make_11 lc_0 ?_
    refine W.lcmp hx hb d_Heap_make_12 ?_
    refine lv_if_lt (tgt := 24) hx hb d_Heap_make_13 (by decide) (fun c104 => ?_) (fun c104 => ?_)
    · rw [if_pos c104] at h
      refine lv_iconst (v := (-1)) hx hb d_Heap_make_24 ic_m1 ?_
      cases h
      exact r_iret C0 hP hS d_Heap_make_25
    · rw [if_neg c104] at h
      refine lv_lload_n hx hb d_Heap_make_16 rfl (lv_at hl 1 rfl) ?_
      refine lv_ldc2 (v := 100000) hx hb hown (hts _ (List.mem_cons_of_mem _ (gT_in 773 (by decide +kernel) rfl))) d_Heap_make_17 ?_
      refine W.lcmp hx hb d_Heap_make_20 ?_
      refine lv_if_le (tgt := 26) hx hb d_Heap_make_21 (by decide) (fun c105 => ?_) (fun c105 => ?_)
      · rw [if_pos c105] at h
        refine lv_aload_n hx hb d_Heap_make_26 rfl (lv_at hl 0 rfl) ?_
        obtain ⟨q106, e107, h⟩ := ob h
        refine k_gr C0 F_Heap_9 hP e107 d_Heap_make_27 ?_
        refine lv_aload_n hx hb d_Heap_make_30 rfl (lv_at hl 0 rfl) ?_
        obtain ⟨x108, e109, h⟩ := ob h
        refine k_gi C0 F_Heap_15 ik_3_1 hP e109 d_Heap_make_31 ?_
        refine lv_lload_n hx hb d_Heap_make_34 rfl (lv_at hl 1 rfl) ?_
        refine lv_l2i hx hb d_Heap_make_35 rfl ?_
        obtain ⟨M110, e111, h⟩ := ob h
        refine k_si C0 hP hS e111 d_Heap_make_36 (fun H locs hP hS => ?_)
        refine lv_aload_n hx hb d_Heap_make_37 rfl (lv_at hl 0 rfl) ?_
        refine lv_dup hx hb d_Heap_make_38 rfl ?_
        obtain ⟨x112, e113, h⟩ := ob h
        refine k_gi C0 F_Heap_15 ik_3_1 hP e113 d_Heap_make_39 ?_
        refine lv_iconst (v := 1) hx hb d_Heap_make_42 ic_1 ?_
        refine lv_iadd hx hb d_Heap_make_43 ?_
        obtain ⟨M114, e115, h⟩ := ob h
        refine k_pi C0 F_Heap_15p ik_3_1 hP hS e115 d_Heap_make_44 (fun H locs hP hS => ?_)
        refine lv_aload_n hx hb d_Heap_make_47 rfl (lv_at hl 0 rfl) ?_
        obtain ⟨x116, e117, h⟩ := ob h
        refine k_gi C0 F_Heap_15 ik_3_1 hP e117 d_Heap_make_48 ?_
        cases h
        exact r_iret C0 hP hS d_Heap_make_51
      · rw [if_neg c105] at h
        refine lv_iconst (v := (-1)) hx hb d_Heap_make_24 ic_m1 ?_
        cases h
        exact r_iret C0 hP hS d_Heap_make_25
/-! AllocationProfiler$Heap.sizeOf -/
def rm_Heap_sizeOf : Room := { frames := 0, cells := 0, slots := 0, locals := 0 }
theorem d_Heap_sizeOf_0 : decode b_Heap_sizeOf 0 = .ok (.iload_n 1, 1) := by decide +kernel
theorem d_Heap_sizeOf_1 : decode b_Heap_sizeOf 1 = .ok (.iconst 1, 1) := by decide +kernel
theorem d_Heap_sizeOf_2 : decode b_Heap_sizeOf 2 = .ok (.if_icmp .lt 22, 3) := by decide +kernel
theorem d_Heap_sizeOf_5 : decode b_Heap_sizeOf 5 = .ok (.iload_n 1, 1) := by decide +kernel
theorem d_Heap_sizeOf_6 : decode b_Heap_sizeOf 6 = .ok (.aload_n 0, 1) := by decide +kernel
theorem d_Heap_sizeOf_7 : decode b_Heap_sizeOf 7 = .ok (.getfield 15, 3) := by decide +kernel
theorem d_Heap_sizeOf_10 : decode b_Heap_sizeOf 10 = .ok (.if_icmp .gt 14, 3) := by decide +kernel
theorem d_Heap_sizeOf_13 : decode b_Heap_sizeOf 13 = .ok (.aload_n 0, 1) := by decide +kernel
theorem d_Heap_sizeOf_14 : decode b_Heap_sizeOf 14 = .ok (.getfield 9, 3) := by decide +kernel
theorem d_Heap_sizeOf_17 : decode b_Heap_sizeOf 17 = .ok (.iload_n 1, 1) := by decide +kernel
theorem d_Heap_sizeOf_18 : decode b_Heap_sizeOf 18 = .ok (.iconst 1, 1) := by decide +kernel
theorem d_Heap_sizeOf_19 : decode b_Heap_sizeOf 19 = .ok (.isub, 1) := by decide +kernel
theorem d_Heap_sizeOf_20 : decode b_Heap_sizeOf 20 = .ok (.iaload, 1) := by decide +kernel
theorem d_Heap_sizeOf_21 : decode b_Heap_sizeOf 21 = .ok (.goto 4, 3) := by decide +kernel
theorem d_Heap_sizeOf_24 : decode b_Heap_sizeOf 24 = .ok (.iconst 0, 1) := by decide +kernel
theorem d_Heap_sizeOf_25 : decode b_Heap_sizeOf 25 = .ok (.ireturn, 1) := by decide +kernel
def f_Heap_sizeOf (x0 : Nat) (x1 : Int32) (M : fm_M) : Option (Int32 × fm_M) :=
  if x1 < 1 then
    some (0, M)
  else
    (gi x0 3 1 M).bind fun x102 =>
    if x102 < x1 then
      some (0, M)
    else
      (gr x0 3 0).bind fun q105 =>
      (ai q105 (x1 - 1) M).bind fun x107 =>
      some (x107, M)
set_option maxHeartbeats 4000000 in
set_option maxRecDepth 100000 in
theorem c_Heap_sizeOf (l : Launch) (G : fm_G) (x0 : Nat) (x1 : Int32) {v : Int32} {M M' : fm_M} (h : f_Heap_sizeOf x0 x1 M = some (v, M')) : kMet l y_Heap_sizeOf b_Heap_sizeOf 2 (some .int) rm_Heap_sizeOf G M [.ref (G.2.2 + x0), .int x1] (some (.int v)) M' := by
  refine r_met (by decide) rfl (Nat.le_of_ble_eq_true rfl) (fun p e s m args below meth c C0 hP ls hl => ?_)
  have hx := C0.1
  have hb := C0.2.1
  have hl : lv_has ls 2 [(0, .ref (G.2.2 + x0)), (1, .int x1)] := hl
  have hS : va_S (fm_A G.2.2) s.heap s.heap [] := va_S.rf
  unfold f_Heap_sizeOf at h
  refine lv_iload_n hx hb d_Heap_sizeOf_0 rfl (lv_at hl 1 rfl) ?_
  refine lv_iconst (v := 1) hx hb d_Heap_sizeOf_1 ic_1 ?_
  refine lv_icmp_lt (tgt := 24) hx hb d_Heap_sizeOf_2 (by decide) (fun c101 => ?_) (fun c101 => ?_)
  · rw [if_pos c101] at h
    refine lv_iconst (v := 0) hx hb d_Heap_sizeOf_24 ic_0 ?_
    cases h
    exact r_iret C0 hP hS d_Heap_sizeOf_25
  · rw [if_neg c101] at h
    refine lv_iload_n hx hb d_Heap_sizeOf_5 rfl (lv_at hl 1 rfl) ?_
    refine lv_aload_n hx hb d_Heap_sizeOf_6 rfl (lv_at hl 0 rfl) ?_
    obtain ⟨x102, e103, h⟩ := ob h
    refine k_gi C0 F_Heap_15 ik_3_1 hP e103 d_Heap_sizeOf_7 ?_
    refine lv_icmp_gt (tgt := 24) hx hb d_Heap_sizeOf_10 (by decide) (fun c104 => ?_) (fun c104 => ?_)
    · rw [if_pos c104] at h
      refine lv_iconst (v := 0) hx hb d_Heap_sizeOf_24 ic_0 ?_
      cases h
      exact r_iret C0 hP hS d_Heap_sizeOf_25
    · rw [if_neg c104] at h
      refine lv_aload_n hx hb d_Heap_sizeOf_13 rfl (lv_at hl 0 rfl) ?_
      obtain ⟨q105, e106, h⟩ := ob h
      refine k_gr C0 F_Heap_9 hP e106 d_Heap_sizeOf_14 ?_
      refine lv_iload_n hx hb d_Heap_sizeOf_17 rfl (lv_at hl 1 rfl) ?_
      refine lv_iconst (v := 1) hx hb d_Heap_sizeOf_18 ic_1 ?_
      refine lv_isub hx hb d_Heap_sizeOf_19 ?_
      obtain ⟨x107, e108, h⟩ := ob h
      refine k_ai C0 hP e108 d_Heap_sizeOf_20 ?_
      refine lv_goto (tgt := 25) hx hb d_Heap_sizeOf_21 (by decide) ?_
      cases h
      exact r_iret C0 hP hS d_Heap_sizeOf_25
/-! AllocationProfiler$Frame.begin -/
def rm_Frame_begin : Room := { frames := 1, cells := 0, slots := 0, locals := 23 }
theorem d_Frame_begin_0 : decode b_Frame_begin 0 = .ok (.aload_n 0, 1) := by decide +kernel
theorem d_Frame_begin_1 : decode b_Frame_begin 1 = .ok (.iload_n 1, 1) := by decide +kernel
theorem d_Frame_begin_2 : decode b_Frame_begin 2 = .ok (.putfield 18, 3) := by decide +kernel
theorem d_Frame_begin_5 : decode b_Frame_begin 5 = .ok (.aload_n 0, 1) := by decide +kernel
theorem d_Frame_begin_6 : decode b_Frame_begin 6 = .ok (.iconst 0, 1) := by decide +kernel
theorem d_Frame_begin_7 : decode b_Frame_begin 7 = .ok (.putfield 22, 3) := by decide +kernel
theorem d_Frame_begin_10 : decode b_Frame_begin 10 = .ok (.aload_n 0, 1) := by decide +kernel
theorem d_Frame_begin_11 : decode b_Frame_begin 11 = .ok (.iconst 0, 1) := by decide +kernel
theorem d_Frame_begin_12 : decode b_Frame_begin 12 = .ok (.putfield 25, 3) := by decide +kernel
theorem d_Frame_begin_15 : decode b_Frame_begin 15 = .ok (.aload_n 0, 1) := by decide +kernel
theorem d_Frame_begin_16 : decode b_Frame_begin 16 = .ok (.getfield 9, 3) := by decide +kernel
theorem d_Frame_begin_19 : decode b_Frame_begin 19 = .ok (.iconst 0, 1) := by decide +kernel
theorem d_Frame_begin_20 : decode b_Frame_begin 20 = .ok (.invokestatic 28, 3) := by decide +kernel
theorem d_Frame_begin_23 : decode b_Frame_begin 23 = .ok (.aload_n 0, 1) := by decide +kernel
theorem d_Frame_begin_24 : decode b_Frame_begin 24 = .ok (.getfield 9, 3) := by decide +kernel
theorem d_Frame_begin_27 : decode b_Frame_begin 27 = .ok (.iconst 0, 1) := by decide +kernel
theorem d_Frame_begin_28 : decode b_Frame_begin 28 = .ok (.iload_n 2, 1) := by decide +kernel
theorem d_Frame_begin_29 : decode b_Frame_begin 29 = .ok (.iastore, 1) := by decide +kernel
theorem d_Frame_begin_30 : decode b_Frame_begin 30 = .ok (.return_, 1) := by decide +kernel
def f_Frame_begin (x0 : Nat) (x1 : Int32) (x2 : Int32) (M : fm_M) : Option fm_M :=
  (pi x0 2 2 x1 M).bind fun M101 =>
  (pi x0 2 3 0 M101).bind fun M103 =>
  (pi x0 2 4 0 M103).bind fun M105 =>
  (gr x0 2 0).bind fun q107 =>
  (f_Arrays_fill q107 0 M105).bind fun M109 =>
  (gr x0 2 0).bind fun q111 =>
  (si q111 0 x2 M109).bind fun M113 =>
  some M113
set_option maxHeartbeats 4000000 in
set_option maxRecDepth 100000 in
theorem c_Frame_begin (l : Launch) (G : fm_G) (x0 : Nat) (x1 : Int32) (x2 : Int32) {M M' : fm_M} (h : f_Frame_begin x0 x1 x2 M = some M') : kMet l y_Frame_begin b_Frame_begin 3 none rm_Frame_begin G M [.ref (G.2.2 + x0), .int x1, .int x2] none M' := by
  refine r_met (by decide) rfl (Nat.le_of_ble_eq_true rfl) (fun p e s m args below meth c C0 hP ls hl => ?_)
  have hx := C0.1
  have hb := C0.2.1
  have hl : lv_has ls 3 [(0, .ref (G.2.2 + x0)), (1, .int x1), (2, .int x2)] := hl
  have hS : va_S (fm_A G.2.2) s.heap s.heap [] := va_S.rf
  unfold f_Frame_begin at h
  refine lv_aload_n hx hb d_Frame_begin_0 rfl (lv_at hl 0 rfl) ?_
  refine lv_iload_n hx hb d_Frame_begin_1 rfl (lv_at hl 1 rfl) ?_
  obtain ⟨M101, e102, h⟩ := ob h
  refine k_pi C0 F_Frame_18p ik_2_2 hP hS e102 d_Frame_begin_2 (fun H locs hP hS => ?_)
  refine lv_aload_n hx hb d_Frame_begin_5 rfl (lv_at hl 0 rfl) ?_
  refine lv_iconst (v := 0) hx hb d_Frame_begin_6 ic_0 ?_
  obtain ⟨M103, e104, h⟩ := ob h
  refine k_pi C0 F_Frame_22p ik_2_3 hP hS e104 d_Frame_begin_7 (fun H locs hP hS => ?_)
  refine lv_aload_n hx hb d_Frame_begin_10 rfl (lv_at hl 0 rfl) ?_
  refine lv_iconst (v := 0) hx hb d_Frame_begin_11 ic_0 ?_
  obtain ⟨M105, e106, h⟩ := ob h
  refine k_pi C0 F_Frame_25p ik_2_4 hP hS e106 d_Frame_begin_12 (fun H locs hP hS => ?_)
  refine lv_aload_n hx hb d_Frame_begin_15 rfl (lv_at hl 0 rfl) ?_
  obtain ⟨q107, e108, h⟩ := ob h
  refine k_gr C0 F_Frame_9 hP e108 d_Frame_begin_16 ?_
  refine lv_iconst (v := 0) hx hb d_Frame_begin_19 ic_0 ?_
  obtain ⟨M109, e110, h⟩ := ob h
  refine k_cSv C0 L_Frame_28 (As := [.ref (G.2.2 + q107), .int 0]) (c_Arrays_fill l G q107 0 e110) ⟨rfl, rfl⟩ ⟨Nat.le_of_ble_eq_true rfl, Nat.le_of_ble_eq_true rfl⟩ hP hS rfl hl.1 rfl (Nat.le_of_ble_eq_true rfl) d_Frame_begin_20 ⟨Nat.zero_le _, Nat.zero_le _⟩ (fun H locs hP hS => ?_)
  refine lv_aload_n hx hb d_Frame_begin_23 rfl (lv_at hl 0 rfl) ?_
  obtain ⟨q111, e112, h⟩ := ob h
  refine k_gr C0 F_Frame_9 hP e112 d_Frame_begin_24 ?_
  refine lv_iconst (v := 0) hx hb d_Frame_begin_27 ic_0 ?_
  refine lv_iload_n hx hb d_Frame_begin_28 rfl (lv_at hl 2 rfl) ?_
  obtain ⟨M113, e114, h⟩ := ob h
  refine k_si C0 hP hS e114 d_Frame_begin_29 (fun H locs hP hS => ?_)
  cases h
  exact r_vret C0 hP hS d_Frame_begin_30
/-! AllocationProfiler$Frame.push -/
def rm_Frame_push : Room := { frames := 0, cells := 0, slots := 0, locals := 0 }
theorem d_Frame_push_0 : decode b_Frame_push 0 = .ok (.aload_n 0, 1) := by decide +kernel
theorem d_Frame_push_1 : decode b_Frame_push 1 = .ok (.getfield 25, 3) := by decide +kernel
theorem d_Frame_push_4 : decode b_Frame_push 4 = .ok (.iconst 5, 1) := by decide +kernel
theorem d_Frame_push_5 : decode b_Frame_push 5 = .ok (.if_icmp .ge 23, 3) := by decide +kernel
theorem d_Frame_push_8 : decode b_Frame_push 8 = .ok (.aload_n 0, 1) := by decide +kernel
theorem d_Frame_push_9 : decode b_Frame_push 9 = .ok (.getfield 15, 3) := by decide +kernel
theorem d_Frame_push_12 : decode b_Frame_push 12 = .ok (.aload_n 0, 1) := by decide +kernel
theorem d_Frame_push_13 : decode b_Frame_push 13 = .ok (.getfield 25, 3) := by decide +kernel
theorem d_Frame_push_16 : decode b_Frame_push 16 = .ok (.iload_n 1, 1) := by decide +kernel
theorem d_Frame_push_17 : decode b_Frame_push 17 = .ok (.iastore, 1) := by decide +kernel
theorem d_Frame_push_18 : decode b_Frame_push 18 = .ok (.aload_n 0, 1) := by decide +kernel
theorem d_Frame_push_19 : decode b_Frame_push 19 = .ok (.dup, 1) := by decide +kernel
theorem d_Frame_push_20 : decode b_Frame_push 20 = .ok (.getfield 25, 3) := by decide +kernel
theorem d_Frame_push_23 : decode b_Frame_push 23 = .ok (.iconst 1, 1) := by decide +kernel
theorem d_Frame_push_24 : decode b_Frame_push 24 = .ok (.iadd, 1) := by decide +kernel
theorem d_Frame_push_25 : decode b_Frame_push 25 = .ok (.putfield 25, 3) := by decide +kernel
theorem d_Frame_push_28 : decode b_Frame_push 28 = .ok (.return_, 1) := by decide +kernel
def f_Frame_push (x0 : Nat) (x1 : Int32) (M : fm_M) : Option fm_M :=
  (gi x0 2 4 M).bind fun x101 =>
  if 5 ≤ x101 then
    some M
  else
    (gr x0 2 1).bind fun q104 =>
    (gi x0 2 4 M).bind fun x106 =>
    (si q104 x106 x1 M).bind fun M108 =>
    (gi x0 2 4 M108).bind fun x110 =>
    (pi x0 2 4 (x110 + 1) M108).bind fun M112 =>
    some M112
set_option maxHeartbeats 4000000 in
set_option maxRecDepth 100000 in
theorem c_Frame_push (l : Launch) (G : fm_G) (x0 : Nat) (x1 : Int32) {M M' : fm_M} (h : f_Frame_push x0 x1 M = some M') : kMet l y_Frame_push b_Frame_push 2 none rm_Frame_push G M [.ref (G.2.2 + x0), .int x1] none M' := by
  refine r_met (by decide) rfl (Nat.le_of_ble_eq_true rfl) (fun p e s m args below meth c C0 hP ls hl => ?_)
  have hx := C0.1
  have hb := C0.2.1
  have hl : lv_has ls 2 [(0, .ref (G.2.2 + x0)), (1, .int x1)] := hl
  have hS : va_S (fm_A G.2.2) s.heap s.heap [] := va_S.rf
  unfold f_Frame_push at h
  refine lv_aload_n hx hb d_Frame_push_0 rfl (lv_at hl 0 rfl) ?_
  obtain ⟨x101, e102, h⟩ := ob h
  refine k_gi C0 F_Frame_25 ik_2_4 hP e102 d_Frame_push_1 ?_
  refine lv_iconst (v := 5) hx hb d_Frame_push_4 ic_5 ?_
  refine lv_icmp_ge (tgt := 28) hx hb d_Frame_push_5 (by decide) (fun c103 => ?_) (fun c103 => ?_)
  · rw [if_pos c103] at h
    cases h
    exact r_vret C0 hP hS d_Frame_push_28
  · rw [if_neg c103] at h
    refine lv_aload_n hx hb d_Frame_push_8 rfl (lv_at hl 0 rfl) ?_
    obtain ⟨q104, e105, h⟩ := ob h
    refine k_gr C0 F_Frame_15 hP e105 d_Frame_push_9 ?_
    refine lv_aload_n hx hb d_Frame_push_12 rfl (lv_at hl 0 rfl) ?_
    obtain ⟨x106, e107, h⟩ := ob h
    refine k_gi C0 F_Frame_25 ik_2_4 hP e107 d_Frame_push_13 ?_
    refine lv_iload_n hx hb d_Frame_push_16 rfl (lv_at hl 1 rfl) ?_
    obtain ⟨M108, e109, h⟩ := ob h
    refine k_si C0 hP hS e109 d_Frame_push_17 (fun H locs hP hS => ?_)
    refine lv_aload_n hx hb d_Frame_push_18 rfl (lv_at hl 0 rfl) ?_
    refine lv_dup hx hb d_Frame_push_19 rfl ?_
    obtain ⟨x110, e111, h⟩ := ob h
    refine k_gi C0 F_Frame_25 ik_2_4 hP e111 d_Frame_push_20 ?_
    refine lv_iconst (v := 1) hx hb d_Frame_push_23 ic_1 ?_
    refine lv_iadd hx hb d_Frame_push_24 ?_
    obtain ⟨M112, e113, h⟩ := ob h
    refine k_pi C0 F_Frame_25p ik_2_4 hP hS e113 d_Frame_push_25 (fun H locs hP hS => ?_)
    cases h
    exact r_vret C0 hP hS d_Frame_push_28
/-! AllocationProfiler$Frame.pop -/
def rm_Frame_pop : Room := { frames := 0, cells := 0, slots := 0, locals := 0 }
theorem d_Frame_pop_0 : decode b_Frame_pop 0 = .ok (.aload_n 0, 1) := by decide +kernel
theorem d_Frame_pop_1 : decode b_Frame_pop 1 = .ok (.getfield 25, 3) := by decide +kernel
theorem d_Frame_pop_4 : decode b_Frame_pop 4 = .ok (.ifCond .ne 5, 3) := by decide +kernel
theorem d_Frame_pop_7 : decode b_Frame_pop 7 = .ok (.iconst 0, 1) := by decide +kernel
theorem d_Frame_pop_8 : decode b_Frame_pop 8 = .ok (.ireturn, 1) := by decide +kernel
theorem d_Frame_pop_9 : decode b_Frame_pop 9 = .ok (.aload_n 0, 1) := by decide +kernel
theorem d_Frame_pop_10 : decode b_Frame_pop 10 = .ok (.dup, 1) := by decide +kernel
theorem d_Frame_pop_11 : decode b_Frame_pop 11 = .ok (.getfield 25, 3) := by decide +kernel
theorem d_Frame_pop_14 : decode b_Frame_pop 14 = .ok (.iconst 1, 1) := by decide +kernel
theorem d_Frame_pop_15 : decode b_Frame_pop 15 = .ok (.isub, 1) := by decide +kernel
theorem d_Frame_pop_16 : decode b_Frame_pop 16 = .ok (.putfield 25, 3) := by decide +kernel
theorem d_Frame_pop_19 : decode b_Frame_pop 19 = .ok (.aload_n 0, 1) := by decide +kernel
theorem d_Frame_pop_20 : decode b_Frame_pop 20 = .ok (.getfield 15, 3) := by decide +kernel
theorem d_Frame_pop_23 : decode b_Frame_pop 23 = .ok (.aload_n 0, 1) := by decide +kernel
theorem d_Frame_pop_24 : decode b_Frame_pop 24 = .ok (.getfield 25, 3) := by decide +kernel
theorem d_Frame_pop_27 : decode b_Frame_pop 27 = .ok (.iaload, 1) := by decide +kernel
theorem d_Frame_pop_28 : decode b_Frame_pop 28 = .ok (.ireturn, 1) := by decide +kernel
def f_Frame_pop (x0 : Nat) (M : fm_M) : Option (Int32 × fm_M) :=
  (gi x0 2 4 M).bind fun x101 =>
  if x101 = 0 then
    some (0, M)
  else
    (gi x0 2 4 M).bind fun x104 =>
    (pi x0 2 4 (x104 - 1) M).bind fun M106 =>
    (gr x0 2 1).bind fun q108 =>
    (gi x0 2 4 M106).bind fun x110 =>
    (ai q108 x110 M106).bind fun x112 =>
    some (x112, M106)
set_option maxHeartbeats 4000000 in
set_option maxRecDepth 100000 in
theorem c_Frame_pop (l : Launch) (G : fm_G) (x0 : Nat) {v : Int32} {M M' : fm_M} (h : f_Frame_pop x0 M = some (v, M')) : kMet l y_Frame_pop b_Frame_pop 1 (some .int) rm_Frame_pop G M [.ref (G.2.2 + x0)] (some (.int v)) M' := by
  refine r_met (by decide) rfl (Nat.le_of_ble_eq_true rfl) (fun p e s m args below meth c C0 hP ls hl => ?_)
  have hx := C0.1
  have hb := C0.2.1
  have hl : lv_has ls 1 [(0, .ref (G.2.2 + x0))] := hl
  have hS : va_S (fm_A G.2.2) s.heap s.heap [] := va_S.rf
  unfold f_Frame_pop at h
  refine lv_aload_n hx hb d_Frame_pop_0 rfl (lv_at hl 0 rfl) ?_
  obtain ⟨x101, e102, h⟩ := ob h
  refine k_gi C0 F_Frame_25 ik_2_4 hP e102 d_Frame_pop_1 ?_
  refine lv_if_ne (tgt := 9) hx hb d_Frame_pop_4 (by decide) (fun c103 => ?_) (fun c103 => ?_)
  · rw [if_neg c103] at h
    refine lv_aload_n hx hb d_Frame_pop_9 rfl (lv_at hl 0 rfl) ?_
    refine lv_dup hx hb d_Frame_pop_10 rfl ?_
    obtain ⟨x104, e105, h⟩ := ob h
    refine k_gi C0 F_Frame_25 ik_2_4 hP e105 d_Frame_pop_11 ?_
    refine lv_iconst (v := 1) hx hb d_Frame_pop_14 ic_1 ?_
    refine lv_isub hx hb d_Frame_pop_15 ?_
    obtain ⟨M106, e107, h⟩ := ob h
    refine k_pi C0 F_Frame_25p ik_2_4 hP hS e107 d_Frame_pop_16 (fun H locs hP hS => ?_)
    refine lv_aload_n hx hb d_Frame_pop_19 rfl (lv_at hl 0 rfl) ?_
    obtain ⟨q108, e109, h⟩ := ob h
    refine k_gr C0 F_Frame_15 hP e109 d_Frame_pop_20 ?_
    refine lv_aload_n hx hb d_Frame_pop_23 rfl (lv_at hl 0 rfl) ?_
    obtain ⟨x110, e111, h⟩ := ob h
    refine k_gi C0 F_Frame_25 ik_2_4 hP e111 d_Frame_pop_24 ?_
    obtain ⟨x112, e113, h⟩ := ob h
    refine k_ai C0 hP e113 d_Frame_pop_27 ?_
    cases h
    exact r_iret C0 hP hS d_Frame_pop_28
  · rw [if_pos c103] at h
    refine lv_iconst (v := 0) hx hb d_Frame_pop_7 ic_0 ?_
    cases h
    exact r_iret C0 hP hS d_Frame_pop_8
/-! AllocationProfiler$Frame.catchAt -/
def rm_Frame_catchAt : Room := { frames := 1, cells := 0, slots := 0, locals := 21 }
theorem d_Frame_catchAt_0 : decode b_Frame_catchAt 0 = .ok (.aload_n 0, 1) := by decide +kernel
theorem d_Frame_catchAt_1 : decode b_Frame_catchAt 1 = .ok (.iconst 0, 1) := by decide +kernel
theorem d_Frame_catchAt_2 : decode b_Frame_catchAt 2 = .ok (.putfield 25, 3) := by decide +kernel
theorem d_Frame_catchAt_5 : decode b_Frame_catchAt 5 = .ok (.aload_n 0, 1) := by decide +kernel
theorem d_Frame_catchAt_6 : decode b_Frame_catchAt 6 = .ok (.iload_n 2, 1) := by decide +kernel
theorem d_Frame_catchAt_7 : decode b_Frame_catchAt 7 = .ok (.invokevirtual 34, 3) := by decide +kernel
theorem d_Frame_catchAt_10 : decode b_Frame_catchAt 10 = .ok (.aload_n 0, 1) := by decide +kernel
theorem d_Frame_catchAt_11 : decode b_Frame_catchAt 11 = .ok (.iload_n 1, 1) := by decide +kernel
theorem d_Frame_catchAt_12 : decode b_Frame_catchAt 12 = .ok (.putfield 22, 3) := by decide +kernel
theorem d_Frame_catchAt_15 : decode b_Frame_catchAt 15 = .ok (.return_, 1) := by decide +kernel
def f_Frame_catchAt (x0 : Nat) (x1 : Int32) (x2 : Int32) (M : fm_M) : Option fm_M :=
  (pi x0 2 4 0 M).bind fun M101 =>
  (ck x0 2).bind fun _ =>
  (f_Frame_push x0 x2 M101).bind fun M104 =>
  (pi x0 2 3 x1 M104).bind fun M106 =>
  some M106
set_option maxHeartbeats 4000000 in
set_option maxRecDepth 100000 in
theorem c_Frame_catchAt (l : Launch) (G : fm_G) (x0 : Nat) (x1 : Int32) (x2 : Int32) {M M' : fm_M} (h : f_Frame_catchAt x0 x1 x2 M = some M') : kMet l y_Frame_catchAt b_Frame_catchAt 3 none rm_Frame_catchAt G M [.ref (G.2.2 + x0), .int x1, .int x2] none M' := by
  refine r_met (by decide) rfl (Nat.le_of_ble_eq_true rfl) (fun p e s m args below meth c C0 hP ls hl => ?_)
  have hx := C0.1
  have hb := C0.2.1
  have hl : lv_has ls 3 [(0, .ref (G.2.2 + x0)), (1, .int x1), (2, .int x2)] := hl
  have hS : va_S (fm_A G.2.2) s.heap s.heap [] := va_S.rf
  unfold f_Frame_catchAt at h
  refine lv_aload_n hx hb d_Frame_catchAt_0 rfl (lv_at hl 0 rfl) ?_
  refine lv_iconst (v := 0) hx hb d_Frame_catchAt_1 ic_0 ?_
  obtain ⟨M101, e102, h⟩ := ob h
  refine k_pi C0 F_Frame_25p ik_2_4 hP hS e102 d_Frame_catchAt_2 (fun H locs hP hS => ?_)
  refine lv_aload_n hx hb d_Frame_catchAt_5 rfl (lv_at hl 0 rfl) ?_
  refine lv_iload_n hx hb d_Frame_catchAt_6 rfl (lv_at hl 2 rfl) ?_
  obtain ⟨_, e103, h⟩ := ob h
  obtain ⟨M104, e105, h⟩ := ob h
  refine k_cVv C0 L_Frame_34 (As := [.int x2]) (c_Frame_push l G x0 x2 e105) ⟨rfl, rfl⟩ ⟨Nat.le_of_ble_eq_true rfl, Nat.le_of_ble_eq_true rfl⟩ hP hS (ck_of e103) ly_Frame rfl hl.1 rfl (Nat.le_of_ble_eq_true rfl) d_Frame_catchAt_7 ⟨Nat.zero_le _, Nat.zero_le _⟩ (fun H locs hP hS => ?_)
  refine lv_aload_n hx hb d_Frame_catchAt_10 rfl (lv_at hl 0 rfl) ?_
  refine lv_iload_n hx hb d_Frame_catchAt_11 rfl (lv_at hl 1 rfl) ?_
  obtain ⟨M106, e107, h⟩ := ob h
  refine k_pi C0 F_Frame_22p ik_2_3 hP hS e107 d_Frame_catchAt_12 (fun H locs hP hS => ?_)
  cases h
  exact r_vret C0 hP hS d_Frame_catchAt_15
/-! AllocationProfiler$Frame.store -/
def rm_Frame_store : Room := { frames := 1, cells := 0, slots := 0, locals := 20 }
theorem d_Frame_store_0 : decode b_Frame_store 0 = .ok (.iload_n 1, 1) := by decide +kernel
theorem d_Frame_store_1 : decode b_Frame_store 1 = .ok (.invokestatic 38, 3) := by decide +kernel
theorem d_Frame_store_4 : decode b_Frame_store 4 = .ok (.ifCond .eq 10, 3) := by decide +kernel
theorem d_Frame_store_7 : decode b_Frame_store 7 = .ok (.aload_n 0, 1) := by decide +kernel
theorem d_Frame_store_8 : decode b_Frame_store 8 = .ok (.getfield 9, 3) := by decide +kernel
theorem d_Frame_store_11 : decode b_Frame_store 11 = .ok (.iload_n 1, 1) := by decide +kernel
theorem d_Frame_store_12 : decode b_Frame_store 12 = .ok (.iload_n 2, 1) := by decide +kernel
theorem d_Frame_store_13 : decode b_Frame_store 13 = .ok (.iastore, 1) := by decide +kernel
theorem d_Frame_store_14 : decode b_Frame_store 14 = .ok (.return_, 1) := by decide +kernel
def f_Frame_store (x0 : Nat) (x1 : Int32) (x2 : Int32) (M : fm_M) : Option fm_M :=
  bd (f_AP_isLocal x1 M) fun x103 M101 =>
  if x103 = 0 then
    some M101
  else
    (gr x0 2 0).bind fun q105 =>
    (si q105 x1 x2 M101).bind fun M107 =>
    some M107
set_option maxHeartbeats 4000000 in
set_option maxRecDepth 100000 in
theorem c_Frame_store (l : Launch) (G : fm_G) (x0 : Nat) (x1 : Int32) (x2 : Int32) {M M' : fm_M} (h : f_Frame_store x0 x1 x2 M = some M') : kMet l y_Frame_store b_Frame_store 3 none rm_Frame_store G M [.ref (G.2.2 + x0), .int x1, .int x2] none M' := by
  refine r_met (by decide) rfl (Nat.le_of_ble_eq_true rfl) (fun p e s m args below meth c C0 hP ls hl => ?_)
  have hx := C0.1
  have hb := C0.2.1
  have hl : lv_has ls 3 [(0, .ref (G.2.2 + x0)), (1, .int x1), (2, .int x2)] := hl
  have hS : va_S (fm_A G.2.2) s.heap s.heap [] := va_S.rf
  unfold f_Frame_store at h
  refine lv_iload_n hx hb d_Frame_store_0 rfl (lv_at hl 1 rfl) ?_
  obtain ⟨x103, M101, e102, h⟩ := ob2 h
  refine k_cSN C0 L_Frame_38 (As := [.int x1]) (c_AP_isLocal l G x1 e102) ⟨rfl, rfl⟩ ⟨Nat.le_of_ble_eq_true rfl, Nat.le_of_ble_eq_true rfl⟩ hP hS rfl hl.1 rfl (Nat.le_of_ble_eq_true rfl) d_Frame_store_1 ⟨Nat.zero_le _, Nat.zero_le _⟩ (fun H locs hP hS => ?_)
  refine lv_if_eq (tgt := 14) hx hb d_Frame_store_4 (by decide) (fun c104 => ?_) (fun c104 => ?_)
  · rw [if_pos c104] at h
    cases h
    exact r_vret C0 hP hS d_Frame_store_14
  · rw [if_neg c104] at h
    refine lv_aload_n hx hb d_Frame_store_7 rfl (lv_at hl 0 rfl) ?_
    obtain ⟨q105, e106, h⟩ := ob h
    refine k_gr C0 F_Frame_9 hP e106 d_Frame_store_8 ?_
    refine lv_iload_n hx hb d_Frame_store_11 rfl (lv_at hl 1 rfl) ?_
    refine lv_iload_n hx hb d_Frame_store_12 rfl (lv_at hl 2 rfl) ?_
    obtain ⟨M107, e108, h⟩ := ob h
    refine k_si C0 hP hS e108 d_Frame_store_13 (fun H locs hP hS => ?_)
    cases h
    exact r_vret C0 hP hS d_Frame_store_14
/-! AllocationProfiler$Frame.duplicate -/
def rm_Frame_duplicate : Room := { frames := 1, cells := 0, slots := 0, locals := 21 }
theorem d_Frame_duplicate_0 : decode b_Frame_duplicate 0 = .ok (.aload_n 0, 1) := by decide +kernel
theorem d_Frame_duplicate_1 : decode b_Frame_duplicate 1 = .ok (.invokevirtual 42, 3) := by decide +kernel
theorem d_Frame_duplicate_4 : decode b_Frame_duplicate 4 = .ok (.istore_n 1, 1) := by decide +kernel
theorem d_Frame_duplicate_5 : decode b_Frame_duplicate 5 = .ok (.aload_n 0, 1) := by decide +kernel
theorem d_Frame_duplicate_6 : decode b_Frame_duplicate 6 = .ok (.iload_n 1, 1) := by decide +kernel
theorem d_Frame_duplicate_7 : decode b_Frame_duplicate 7 = .ok (.invokevirtual 34, 3) := by decide +kernel
theorem d_Frame_duplicate_10 : decode b_Frame_duplicate 10 = .ok (.aload_n 0, 1) := by decide +kernel
theorem d_Frame_duplicate_11 : decode b_Frame_duplicate 11 = .ok (.iload_n 1, 1) := by decide +kernel
theorem d_Frame_duplicate_12 : decode b_Frame_duplicate 12 = .ok (.invokevirtual 34, 3) := by decide +kernel
theorem d_Frame_duplicate_15 : decode b_Frame_duplicate 15 = .ok (.return_, 1) := by decide +kernel
def f_Frame_duplicate (x0 : Nat) (M : fm_M) : Option fm_M :=
  (ck x0 2).bind fun _ =>
  bd (f_Frame_pop x0 M) fun x104 M102 =>
  (ck x0 2).bind fun _ =>
  (f_Frame_push x0 x104 M102).bind fun M106 =>
  (ck x0 2).bind fun _ =>
  (f_Frame_push x0 x104 M106).bind fun M109 =>
  some M109
set_option maxHeartbeats 4000000 in
set_option maxRecDepth 100000 in
theorem c_Frame_duplicate (l : Launch) (G : fm_G) (x0 : Nat) {M M' : fm_M} (h : f_Frame_duplicate x0 M = some M') : kMet l y_Frame_duplicate b_Frame_duplicate 2 none rm_Frame_duplicate G M [.ref (G.2.2 + x0)] none M' := by
  refine r_met (by decide) rfl (Nat.le_of_ble_eq_true rfl) (fun p e s m args below meth c C0 hP ls hl => ?_)
  have hx := C0.1
  have hb := C0.2.1
  have hl : lv_has ls 2 [(0, .ref (G.2.2 + x0))] := hl
  have hS : va_S (fm_A G.2.2) s.heap s.heap [] := va_S.rf
  unfold f_Frame_duplicate at h
  refine lv_aload_n hx hb d_Frame_duplicate_0 rfl (lv_at hl 0 rfl) ?_
  obtain ⟨_, e101, h⟩ := ob h
  obtain ⟨x104, M102, e103, h⟩ := ob2 h
  refine k_cV C0 L_Frame_42 (As := []) (c_Frame_pop l G x0 e103) ⟨rfl, rfl⟩ ⟨Nat.le_of_ble_eq_true rfl, Nat.le_of_ble_eq_true rfl⟩ hP hS (ck_of e101) ly_Frame rfl hl.1 rfl (Nat.le_of_ble_eq_true rfl) d_Frame_duplicate_1 ⟨Nat.zero_le _, Nat.zero_le _⟩ (fun H locs hP hS => ?_)
  refine lv_istore_n (lv' := [(1, .int x104), (0, .ref (G.2.2 + x0))]) hx hb d_Frame_duplicate_4 rfl hl (by decide) rfl (fun ls hl => ?_)
  refine lv_aload_n hx hb d_Frame_duplicate_5 rfl (lv_at hl 1 rfl) ?_
  refine lv_iload_n hx hb d_Frame_duplicate_6 rfl (lv_at hl 0 rfl) ?_
  obtain ⟨_, e105, h⟩ := ob h
  obtain ⟨M106, e107, h⟩ := ob h
  refine k_cVv C0 L_Frame_34 (As := [.int x104]) (c_Frame_push l G x0 x104 e107) ⟨rfl, rfl⟩ ⟨Nat.le_of_ble_eq_true rfl, Nat.le_of_ble_eq_true rfl⟩ hP hS (ck_of e105) ly_Frame rfl hl.1 rfl (Nat.le_of_ble_eq_true rfl) d_Frame_duplicate_7 ⟨Nat.zero_le _, Nat.zero_le _⟩ (fun H locs hP hS => ?_)
  refine lv_aload_n hx hb d_Frame_duplicate_10 rfl (lv_at hl 1 rfl) ?_
  refine lv_iload_n hx hb d_Frame_duplicate_11 rfl (lv_at hl 0 rfl) ?_
  obtain ⟨_, e108, h⟩ := ob h
  obtain ⟨M109, e110, h⟩ := ob h
  refine k_cVv C0 L_Frame_34 (As := [.int x104]) (c_Frame_push l G x0 x104 e110) ⟨rfl, rfl⟩ ⟨Nat.le_of_ble_eq_true rfl, Nat.le_of_ble_eq_true rfl⟩ hP hS (ck_of e108) ly_Frame rfl hl.1 rfl (Nat.le_of_ble_eq_true rfl) d_Frame_duplicate_12 ⟨Nat.zero_le _, Nat.zero_le _⟩ (fun H locs hP hS => ?_)
  cases h
  exact r_vret C0 hP hS d_Frame_duplicate_15
/-! AllocationProfiler$Frame.combine -/
def rm_Frame_combine : Room := { frames := 1, cells := 0, slots := 0, locals := 21 }
theorem d_Frame_combine_0 : decode b_Frame_combine 0 = .ok (.aload_n 0, 1) := by decide +kernel
theorem d_Frame_combine_1 : decode b_Frame_combine 1 = .ok (.invokevirtual 42, 3) := by decide +kernel
theorem d_Frame_combine_4 : decode b_Frame_combine 4 = .ok (.istore_n 2, 1) := by decide +kernel
theorem d_Frame_combine_5 : decode b_Frame_combine 5 = .ok (.aload_n 0, 1) := by decide +kernel
theorem d_Frame_combine_6 : decode b_Frame_combine 6 = .ok (.invokevirtual 42, 3) := by decide +kernel
theorem d_Frame_combine_9 : decode b_Frame_combine 9 = .ok (.istore_n 3, 1) := by decide +kernel
theorem d_Frame_combine_10 : decode b_Frame_combine 10 = .ok (.iload_n 1, 1) := by decide +kernel
theorem d_Frame_combine_11 : decode b_Frame_combine 11 = .ok (.iconst 3, 1) := by decide +kernel
theorem d_Frame_combine_12 : decode b_Frame_combine 12 = .ok (.if_icmp .ne 13, 3) := by decide +kernel
theorem d_Frame_combine_15 : decode b_Frame_combine 15 = .ok (.aload_n 0, 1) := by decide +kernel
theorem d_Frame_combine_16 : decode b_Frame_combine 16 = .ok (.iload_n 3, 1) := by decide +kernel
theorem d_Frame_combine_17 : decode b_Frame_combine 17 = .ok (.iload_n 2, 1) := by decide +kernel
theorem d_Frame_combine_18 : decode b_Frame_combine 18 = .ok (.iadd, 1) := by decide +kernel
theorem d_Frame_combine_19 : decode b_Frame_combine 19 = .ok (.invokevirtual 34, 3) := by decide +kernel
theorem d_Frame_combine_22 : decode b_Frame_combine 22 = .ok (.goto 30, 3) := by decide +kernel
theorem d_Frame_combine_25 : decode b_Frame_combine 25 = .ok (.iload_n 1, 1) := by decide +kernel
theorem d_Frame_combine_26 : decode b_Frame_combine 26 = .ok (.iconst 4, 1) := by decide +kernel
theorem d_Frame_combine_27 : decode b_Frame_combine 27 = .ok (.if_icmp .ne 13, 3) := by decide +kernel
theorem d_Frame_combine_30 : decode b_Frame_combine 30 = .ok (.aload_n 0, 1) := by decide +kernel
theorem d_Frame_combine_31 : decode b_Frame_combine 31 = .ok (.iload_n 3, 1) := by decide +kernel
theorem d_Frame_combine_32 : decode b_Frame_combine 32 = .ok (.iload_n 2, 1) := by decide +kernel
theorem d_Frame_combine_33 : decode b_Frame_combine 33 = .ok (.isub, 1) := by decide +kernel
theorem d_Frame_combine_34 : decode b_Frame_combine 34 = .ok (.invokevirtual 34, 3) := by decide +kernel
theorem d_Frame_combine_37 : decode b_Frame_combine 37 = .ok (.goto 15, 3) := by decide +kernel
theorem d_Frame_combine_40 : decode b_Frame_combine 40 = .ok (.iload_n 1, 1) := by decide +kernel
theorem d_Frame_combine_41 : decode b_Frame_combine 41 = .ok (.iconst 5, 1) := by decide +kernel
theorem d_Frame_combine_42 : decode b_Frame_combine 42 = .ok (.if_icmp .ne 10, 3) := by decide +kernel
theorem d_Frame_combine_45 : decode b_Frame_combine 45 = .ok (.aload_n 0, 1) := by decide +kernel
theorem d_Frame_combine_46 : decode b_Frame_combine 46 = .ok (.iload_n 3, 1) := by decide +kernel
theorem d_Frame_combine_47 : decode b_Frame_combine 47 = .ok (.iload_n 2, 1) := by decide +kernel
theorem d_Frame_combine_48 : decode b_Frame_combine 48 = .ok (.imul, 1) := by decide +kernel
theorem d_Frame_combine_49 : decode b_Frame_combine 49 = .ok (.invokevirtual 34, 3) := by decide +kernel
theorem d_Frame_combine_52 : decode b_Frame_combine 52 = .ok (.return_, 1) := by decide +kernel
def f_Frame_combine (x0 : Nat) (x1 : Int32) (M : fm_M) : Option fm_M :=
  (ck x0 2).bind fun _ =>
  bd (f_Frame_pop x0 M) fun x104 M102 =>
  (ck x0 2).bind fun _ =>
  bd (f_Frame_pop x0 M102) fun x108 M106 =>
  if x1 = 3 then
    (ck x0 2).bind fun _ =>
    (f_Frame_push x0 (x108 + x104) M106).bind fun M119 =>
    some M119
  else
    if x1 = 4 then
      (ck x0 2).bind fun _ =>
      (f_Frame_push x0 (x108 - x104) M106).bind fun M116 =>
      some M116
    else
      if x1 = 5 then
        (ck x0 2).bind fun _ =>
        (f_Frame_push x0 (x108 * x104) M106).bind fun M113 =>
        some M113
      else
        some M106
set_option maxHeartbeats 4000000 in
set_option maxRecDepth 100000 in
theorem c_Frame_combine (l : Launch) (G : fm_G) (x0 : Nat) (x1 : Int32) {M M' : fm_M} (h : f_Frame_combine x0 x1 M = some M') : kMet l y_Frame_combine b_Frame_combine 4 none rm_Frame_combine G M [.ref (G.2.2 + x0), .int x1] none M' := by
  refine r_met (by decide) rfl (Nat.le_of_ble_eq_true rfl) (fun p e s m args below meth c C0 hP ls hl => ?_)
  have hx := C0.1
  have hb := C0.2.1
  have hl : lv_has ls 4 [(0, .ref (G.2.2 + x0)), (1, .int x1)] := hl
  have hS : va_S (fm_A G.2.2) s.heap s.heap [] := va_S.rf
  unfold f_Frame_combine at h
  refine lv_aload_n hx hb d_Frame_combine_0 rfl (lv_at hl 0 rfl) ?_
  obtain ⟨_, e101, h⟩ := ob h
  obtain ⟨x104, M102, e103, h⟩ := ob2 h
  refine k_cV C0 L_Frame_42 (As := []) (c_Frame_pop l G x0 e103) ⟨rfl, rfl⟩ ⟨Nat.le_of_ble_eq_true rfl, Nat.le_of_ble_eq_true rfl⟩ hP hS (ck_of e101) ly_Frame rfl hl.1 rfl (Nat.le_of_ble_eq_true rfl) d_Frame_combine_1 ⟨Nat.zero_le _, Nat.zero_le _⟩ (fun H locs hP hS => ?_)
  refine lv_istore_n (lv' := [(2, .int x104), (0, .ref (G.2.2 + x0)), (1, .int x1)]) hx hb d_Frame_combine_4 rfl hl (by decide) rfl (fun ls hl => ?_)
  refine lv_aload_n hx hb d_Frame_combine_5 rfl (lv_at hl 1 rfl) ?_
  obtain ⟨_, e105, h⟩ := ob h
  obtain ⟨x108, M106, e107, h⟩ := ob2 h
  refine k_cV C0 L_Frame_42 (As := []) (c_Frame_pop l G x0 e107) ⟨rfl, rfl⟩ ⟨Nat.le_of_ble_eq_true rfl, Nat.le_of_ble_eq_true rfl⟩ hP hS (ck_of e105) ly_Frame rfl hl.1 rfl (Nat.le_of_ble_eq_true rfl) d_Frame_combine_6 ⟨Nat.zero_le _, Nat.zero_le _⟩ (fun H locs hP hS => ?_)
  refine lv_istore_n (lv' := [(3, .int x108), (2, .int x104), (0, .ref (G.2.2 + x0)), (1, .int x1)]) hx hb d_Frame_combine_9 rfl hl (by decide) rfl (fun ls hl => ?_)
  refine lv_iload_n hx hb d_Frame_combine_10 rfl (lv_at hl 3 rfl) ?_
  refine lv_iconst (v := 3) hx hb d_Frame_combine_11 ic_3 ?_
  refine lv_icmp_ne (tgt := 25) hx hb d_Frame_combine_12 (by decide) (fun c109 => ?_) (fun c109 => ?_)
  · rw [if_neg c109] at h
    refine lv_iload_n hx hb d_Frame_combine_25 rfl (lv_at hl 3 rfl) ?_
    refine lv_iconst (v := 4) hx hb d_Frame_combine_26 ic_4 ?_
    refine lv_icmp_ne (tgt := 40) hx hb d_Frame_combine_27 (by decide) (fun c110 => ?_) (fun c110 => ?_)
    · rw [if_neg c110] at h
      refine lv_iload_n hx hb d_Frame_combine_40 rfl (lv_at hl 3 rfl) ?_
      refine lv_iconst (v := 5) hx hb d_Frame_combine_41 ic_5 ?_
      refine lv_icmp_ne (tgt := 52) hx hb d_Frame_combine_42 (by decide) (fun c111 => ?_) (fun c111 => ?_)
      · rw [if_neg c111] at h
        cases h
        exact r_vret C0 hP hS d_Frame_combine_52
      · rw [if_pos c111] at h
        refine lv_aload_n hx hb d_Frame_combine_45 rfl (lv_at hl 2 rfl) ?_
        refine lv_iload_n hx hb d_Frame_combine_46 rfl (lv_at hl 0 rfl) ?_
        refine lv_iload_n hx hb d_Frame_combine_47 rfl (lv_at hl 1 rfl) ?_
        refine lv_imul hx hb d_Frame_combine_48 ?_
        obtain ⟨_, e112, h⟩ := ob h
        obtain ⟨M113, e114, h⟩ := ob h
        refine k_cVv C0 L_Frame_34 (As := [.int (x108 * x104)]) (c_Frame_push l G x0 (x108 * x104) e114) ⟨rfl, rfl⟩ ⟨Nat.le_of_ble_eq_true rfl, Nat.le_of_ble_eq_true rfl⟩ hP hS (ck_of e112) ly_Frame rfl hl.1 rfl (Nat.le_of_ble_eq_true rfl) d_Frame_combine_49 ⟨Nat.zero_le _, Nat.zero_le _⟩ (fun H locs hP hS => ?_)
        cases h
        exact r_vret C0 hP hS d_Frame_combine_52
    · rw [if_pos c110] at h
      refine lv_aload_n hx hb d_Frame_combine_30 rfl (lv_at hl 2 rfl) ?_
      refine lv_iload_n hx hb d_Frame_combine_31 rfl (lv_at hl 0 rfl) ?_
      refine lv_iload_n hx hb d_Frame_combine_32 rfl (lv_at hl 1 rfl) ?_
      refine lv_isub hx hb d_Frame_combine_33 ?_
      obtain ⟨_, e115, h⟩ := ob h
      obtain ⟨M116, e117, h⟩ := ob h
      refine k_cVv C0 L_Frame_34 (As := [.int (x108 - x104)]) (c_Frame_push l G x0 (x108 - x104) e117) ⟨rfl, rfl⟩ ⟨Nat.le_of_ble_eq_true rfl, Nat.le_of_ble_eq_true rfl⟩ hP hS (ck_of e115) ly_Frame rfl hl.1 rfl (Nat.le_of_ble_eq_true rfl) d_Frame_combine_34 ⟨Nat.zero_le _, Nat.zero_le _⟩ (fun H locs hP hS => ?_)
      refine lv_goto (tgt := 52) hx hb d_Frame_combine_37 (by decide) ?_
      cases h
      exact r_vret C0 hP hS d_Frame_combine_52
  · rw [if_pos c109] at h
    refine lv_aload_n hx hb d_Frame_combine_15 rfl (lv_at hl 2 rfl) ?_
    refine lv_iload_n hx hb d_Frame_combine_16 rfl (lv_at hl 0 rfl) ?_
    refine lv_iload_n hx hb d_Frame_combine_17 rfl (lv_at hl 1 rfl) ?_
    refine lv_iadd hx hb d_Frame_combine_18 ?_
    obtain ⟨_, e118, h⟩ := ob h
    obtain ⟨M119, e120, h⟩ := ob h
    refine k_cVv C0 L_Frame_34 (As := [.int (x108 + x104)]) (c_Frame_push l G x0 (x108 + x104) e120) ⟨rfl, rfl⟩ ⟨Nat.le_of_ble_eq_true rfl, Nat.le_of_ble_eq_true rfl⟩ hP hS (ck_of e118) ly_Frame rfl hl.1 rfl (Nat.le_of_ble_eq_true rfl) d_Frame_combine_19 ⟨Nat.zero_le _, Nat.zero_le _⟩ (fun H locs hP hS => ?_)
    refine lv_goto (tgt := 52) hx hb d_Frame_combine_22 (by decide) ?_
    cases h
    exact r_vret C0 hP hS d_Frame_combine_52
/-! AllocationProfiler$Frame.compute -/
def rm_Frame_compute : Room := { frames := 2, cells := 0, slots := 0, locals := 44 }
theorem d_Frame_compute_0 : decode b_Frame_compute 0 = .ok (.iload_n 1, 1) := by decide +kernel
theorem d_Frame_compute_1 : decode b_Frame_compute 1 = .ok (.tableswitch 106 0 7 #[47, 55, 79, 106, 106, 106, 91, 98], 47) := by decide +kernel
theorem d_Frame_compute_48 : decode b_Frame_compute 48 = .ok (.aload_n 0, 1) := by decide +kernel
theorem d_Frame_compute_49 : decode b_Frame_compute 49 = .ok (.iload_n 2, 1) := by decide +kernel
theorem d_Frame_compute_50 : decode b_Frame_compute 50 = .ok (.invokevirtual 34, 3) := by decide +kernel
theorem d_Frame_compute_53 : decode b_Frame_compute 53 = .ok (.goto 59, 3) := by decide +kernel
theorem d_Frame_compute_56 : decode b_Frame_compute 56 = .ok (.aload_n 0, 1) := by decide +kernel
theorem d_Frame_compute_57 : decode b_Frame_compute 57 = .ok (.iload_n 2, 1) := by decide +kernel
theorem d_Frame_compute_58 : decode b_Frame_compute 58 = .ok (.invokestatic 38, 3) := by decide +kernel
theorem d_Frame_compute_61 : decode b_Frame_compute 61 = .ok (.ifCond .eq 12, 3) := by decide +kernel
theorem d_Frame_compute_64 : decode b_Frame_compute 64 = .ok (.aload_n 0, 1) := by decide +kernel
theorem d_Frame_compute_65 : decode b_Frame_compute 65 = .ok (.getfield 9, 3) := by decide +kernel
theorem d_Frame_compute_68 : decode b_Frame_compute 68 = .ok (.iload_n 2, 1) := by decide +kernel
theorem d_Frame_compute_69 : decode b_Frame_compute 69 = .ok (.iaload, 1) := by decide +kernel
theorem d_Frame_compute_70 : decode b_Frame_compute 70 = .ok (.goto 4, 3) := by decide +kernel
theorem d_Frame_compute_73 : decode b_Frame_compute 73 = .ok (.iconst 0, 1) := by decide +kernel
theorem d_Frame_compute_74 : decode b_Frame_compute 74 = .ok (.invokevirtual 34, 3) := by decide +kernel
theorem d_Frame_compute_77 : decode b_Frame_compute 77 = .ok (.goto 35, 3) := by decide +kernel
theorem d_Frame_compute_80 : decode b_Frame_compute 80 = .ok (.aload_n 0, 1) := by decide +kernel
theorem d_Frame_compute_81 : decode b_Frame_compute 81 = .ok (.iload_n 2, 1) := by decide +kernel
theorem d_Frame_compute_82 : decode b_Frame_compute 82 = .ok (.aload_n 0, 1) := by decide +kernel
theorem d_Frame_compute_83 : decode b_Frame_compute 83 = .ok (.invokevirtual 42, 3) := by decide +kernel
theorem d_Frame_compute_86 : decode b_Frame_compute 86 = .ok (.invokevirtual 46, 3) := by decide +kernel
theorem d_Frame_compute_89 : decode b_Frame_compute 89 = .ok (.goto 23, 3) := by decide +kernel
theorem d_Frame_compute_92 : decode b_Frame_compute 92 = .ok (.aload_n 0, 1) := by decide +kernel
theorem d_Frame_compute_93 : decode b_Frame_compute 93 = .ok (.invokevirtual 50, 3) := by decide +kernel
theorem d_Frame_compute_96 : decode b_Frame_compute 96 = .ok (.goto 16, 3) := by decide +kernel
theorem d_Frame_compute_99 : decode b_Frame_compute 99 = .ok (.aload_n 0, 1) := by decide +kernel
theorem d_Frame_compute_100 : decode b_Frame_compute 100 = .ok (.invokevirtual 42, 3) := by decide +kernel
theorem d_Frame_compute_103 : decode b_Frame_compute 103 = .ok (.pop, 1) := by decide +kernel
theorem d_Frame_compute_104 : decode b_Frame_compute 104 = .ok (.goto 8, 3) := by decide +kernel
theorem d_Frame_compute_107 : decode b_Frame_compute 107 = .ok (.aload_n 0, 1) := by decide +kernel
theorem d_Frame_compute_108 : decode b_Frame_compute 108 = .ok (.iload_n 1, 1) := by decide +kernel
theorem d_Frame_compute_109 : decode b_Frame_compute 109 = .ok (.invokevirtual 53, 3) := by decide +kernel
theorem d_Frame_compute_112 : decode b_Frame_compute 112 = .ok (.aload_n 0, 1) := by decide +kernel
theorem d_Frame_compute_113 : decode b_Frame_compute 113 = .ok (.dup, 1) := by decide +kernel
theorem d_Frame_compute_114 : decode b_Frame_compute 114 = .ok (.getfield 22, 3) := by decide +kernel
theorem d_Frame_compute_117 : decode b_Frame_compute 117 = .ok (.iconst 1, 1) := by decide +kernel
theorem d_Frame_compute_118 : decode b_Frame_compute 118 = .ok (.iadd, 1) := by decide +kernel
theorem d_Frame_compute_119 : decode b_Frame_compute 119 = .ok (.putfield 22, 3) := by decide +kernel
theorem d_Frame_compute_122 : decode b_Frame_compute 122 = .ok (.return_, 1) := by decide +kernel
def j_Frame_compute_112 (x0 : Nat) (M : fm_M) : Option fm_M :=
  (gi x0 2 3 M).bind fun x101 =>
  (pi x0 2 3 (x101 + 1) M).bind fun M103 =>
  some M103
def j_Frame_compute_74 (x0 : Nat) (s0 : Nat) (s1 : Int32) (M : fm_M) : Option fm_M :=
  (ck s0 2).bind fun _ =>
  (f_Frame_push s0 s1 M).bind fun M106 =>
  j_Frame_compute_112 x0 M106
def f_Frame_compute (x0 : Nat) (x1 : Int32) (x2 : Int32) (M : fm_M) : Option fm_M :=
  if x1 = 0 then
    (ck x0 2).bind fun _ =>
    (f_Frame_push x0 x2 M).bind fun M110 =>
    j_Frame_compute_112 x0 M110
  else
  if x1 = 1 then
    bd (f_AP_isLocal x2 M) fun x115 M113 =>
    if x115 = 0 then
      j_Frame_compute_74 x0 x0 0 M113
    else
      (gr x0 2 0).bind fun q117 =>
      (ai q117 x2 M113).bind fun x119 =>
      j_Frame_compute_74 x0 x0 x119 M113
  else
  if x1 = 2 then
    (ck x0 2).bind fun _ =>
    bd (f_Frame_pop x0 M) fun x125 M123 =>
    (ck x0 2).bind fun _ =>
    (f_Frame_store x0 x2 x125 M123).bind fun M127 =>
    j_Frame_compute_112 x0 M127
  else
  if x1 = 3 then
    (ck x0 2).bind fun _ =>
    (f_Frame_combine x0 x1 M).bind fun M131 =>
    j_Frame_compute_112 x0 M131
  else
  if x1 = 4 then
    (ck x0 2).bind fun _ =>
    (f_Frame_combine x0 x1 M).bind fun M135 =>
    j_Frame_compute_112 x0 M135
  else
  if x1 = 5 then
    (ck x0 2).bind fun _ =>
    (f_Frame_combine x0 x1 M).bind fun M139 =>
    j_Frame_compute_112 x0 M139
  else
  if x1 = 6 then
    (ck x0 2).bind fun _ =>
    (f_Frame_duplicate x0 M).bind fun M143 =>
    j_Frame_compute_112 x0 M143
  else
  if x1 = 7 then
    (ck x0 2).bind fun _ =>
    bd (f_Frame_pop x0 M) fun x149 M147 =>
    j_Frame_compute_112 x0 M147
  else
    (ck x0 2).bind fun _ =>
    (f_Frame_combine x0 x1 M).bind fun M151 =>
    j_Frame_compute_112 x0 M151
set_option maxHeartbeats 4000000 in
set_option maxRecDepth 100000 in
theorem w_Frame_compute_112 {p : Program} {l : Launch} {e : Env} {s : State} {m : MethodId} {args : Array Value} {below : List Frame} {meth : Method} {c : Code} {G : fm_G} (C0 : fm_C p s m args meth c G (.code y_Frame_compute b_Frame_compute 3 none) "AllocationProfiler$Frame" b_Frame_compute 3 none) {M' : fm_M} (x0 : Nat) {M : fm_M} {H : Heap} {locs : List Loc} (hP : kP G M H) (hS : kS G s H locs) {ls : Array Slot} (hl : lv_has ls 3 [(0, .ref (G.2.2 + x0))]) (h : j_Frame_compute_112 x0 M = some M') : W p l e rm_Frame_compute s m args below meth c H locs 0 0 (MQ below (fm_Q G 212 shF none M') args s 0 0 (fm_A G.2.2)) (F0 m 112 ls []) := by
  have hx := C0.1
  have hb := C0.2.1
  unfold j_Frame_compute_112 at h
  refine lv_aload_n hx hb d_Frame_compute_112 rfl (lv_at hl 0 rfl) ?_
  refine lv_dup hx hb d_Frame_compute_113 rfl ?_
  obtain ⟨x101, e102, h⟩ := ob h
  refine k_gi C0 F_Frame_22 ik_2_3 hP e102 d_Frame_compute_114 ?_
  refine lv_iconst (v := 1) hx hb d_Frame_compute_117 ic_1 ?_
  refine lv_iadd hx hb d_Frame_compute_118 ?_
  obtain ⟨M103, e104, h⟩ := ob h
  refine k_pi C0 F_Frame_22p ik_2_3 hP hS e104 d_Frame_compute_119 (fun H locs hP hS => ?_)
  cases h
  exact r_vret C0 hP hS d_Frame_compute_122
set_option maxHeartbeats 4000000 in
set_option maxRecDepth 100000 in
theorem w_Frame_compute_74 {p : Program} {l : Launch} {e : Env} {s : State} {m : MethodId} {args : Array Value} {below : List Frame} {meth : Method} {c : Code} {G : fm_G} (C0 : fm_C p s m args meth c G (.code y_Frame_compute b_Frame_compute 3 none) "AllocationProfiler$Frame" b_Frame_compute 3 none) {M' : fm_M} (x0 : Nat) (s0 : Nat) (s1 : Int32) {M : fm_M} {H : Heap} {locs : List Loc} (hP : kP G M H) (hS : kS G s H locs) {ls : Array Slot} (hl : lv_has ls 3 [(0, .ref (G.2.2 + x0))]) (h : j_Frame_compute_74 x0 s0 s1 M = some M') : W p l e rm_Frame_compute s m args below meth c H locs 0 0 (MQ below (fm_Q G 212 shF none M') args s 0 0 (fm_A G.2.2)) (F0 m 74 ls [.int s1, .ref (G.2.2 + s0)]) := by
  have hx := C0.1
  have hb := C0.2.1
  unfold j_Frame_compute_74 at h
  obtain ⟨_, e105, h⟩ := ob h
  obtain ⟨M106, e107, h⟩ := ob h
  refine k_cVv C0 L_Frame_34 (As := [.int s1]) (c_Frame_push l G s0 s1 e107) ⟨rfl, rfl⟩ ⟨Nat.le_of_ble_eq_true rfl, Nat.le_of_ble_eq_true rfl⟩ hP hS (ck_of e105) ly_Frame rfl hl.1 rfl (Nat.le_of_ble_eq_true rfl) d_Frame_compute_74 ⟨Nat.zero_le _, Nat.zero_le _⟩ (fun H locs hP hS => ?_)
  refine lv_goto (tgt := 112) hx hb d_Frame_compute_77 (by decide) ?_
  exact w_Frame_compute_112 C0 x0 hP hS (lv_sub hl [0] rfl) h
set_option maxHeartbeats 4000000 in
set_option maxRecDepth 100000 in
theorem c_Frame_compute (l : Launch) (G : fm_G) (x0 : Nat) (x1 : Int32) (x2 : Int32) {M M' : fm_M} (h : f_Frame_compute x0 x1 x2 M = some M') : kMet l y_Frame_compute b_Frame_compute 3 none rm_Frame_compute G M [.ref (G.2.2 + x0), .int x1, .int x2] none M' := by
  refine r_met (by decide) rfl (Nat.le_of_ble_eq_true rfl) (fun p e s m args below meth c C0 hP ls hl => ?_)
  have hx := C0.1
  have hb := C0.2.1
  have hl : lv_has ls 3 [(0, .ref (G.2.2 + x0)), (1, .int x1), (2, .int x2)] := hl
  have hS : va_S (fm_A G.2.2) s.heap s.heap [] := va_S.rf
  unfold f_Frame_compute at h
  refine lv_iload_n hx hb d_Frame_compute_0 rfl (lv_at hl 1 rfl) ?_
  by_cases c108 : x1 = 0
  · rw [if_pos c108] at h
    rw [c108]
    refine lv_tableIn hx hb d_Frame_compute_1 (by decide) (by decide) (ho := rfl) (tgt := 48) (by decide) ?_
    refine lv_aload_n hx hb d_Frame_compute_48 rfl (lv_at hl 0 rfl) ?_
    refine lv_iload_n hx hb d_Frame_compute_49 rfl (lv_at hl 2 rfl) ?_
    obtain ⟨_, e109, h⟩ := ob h
    obtain ⟨M110, e111, h⟩ := ob h
    refine k_cVv C0 L_Frame_34 (As := [.int x2]) (c_Frame_push l G x0 x2 e111) ⟨rfl, rfl⟩ ⟨Nat.le_of_ble_eq_true rfl, Nat.le_of_ble_eq_true rfl⟩ hP hS (ck_of e109) ly_Frame rfl hl.1 rfl (Nat.le_of_ble_eq_true rfl) d_Frame_compute_50 ⟨Nat.zero_le _, Nat.zero_le _⟩ (fun H locs hP hS => ?_)
    refine lv_goto (tgt := 112) hx hb d_Frame_compute_53 (by decide) ?_
    exact w_Frame_compute_112 C0 x0 hP hS (lv_sub hl [0] rfl) h
  rw [if_neg c108] at h
  by_cases c112 : x1 = 1
  · rw [if_pos c112] at h
    rw [c112]
    refine lv_tableIn hx hb d_Frame_compute_1 (by decide) (by decide) (ho := rfl) (tgt := 56) (by decide) ?_
    refine lv_aload_n hx hb d_Frame_compute_56 rfl (lv_at hl 0 rfl) ?_
    refine lv_iload_n hx hb d_Frame_compute_57 rfl (lv_at hl 2 rfl) ?_
    obtain ⟨x115, M113, e114, h⟩ := ob2 h
    refine k_cSN C0 L_Frame_38 (As := [.int x2]) (c_AP_isLocal l G x2 e114) ⟨rfl, rfl⟩ ⟨Nat.le_of_ble_eq_true rfl, Nat.le_of_ble_eq_true rfl⟩ hP hS rfl hl.1 rfl (Nat.le_of_ble_eq_true rfl) d_Frame_compute_58 ⟨Nat.zero_le _, Nat.zero_le _⟩ (fun H locs hP hS => ?_)
    refine lv_if_eq (tgt := 73) hx hb d_Frame_compute_61 (by decide) (fun c116 => ?_) (fun c116 => ?_)
    · rw [if_pos c116] at h
      refine lv_iconst (v := 0) hx hb d_Frame_compute_73 ic_0 ?_
      exact w_Frame_compute_74 C0 x0 x0 0 hP hS (lv_sub hl [0] rfl) h
    · rw [if_neg c116] at h
      refine lv_aload_n hx hb d_Frame_compute_64 rfl (lv_at hl 0 rfl) ?_
      obtain ⟨q117, e118, h⟩ := ob h
      refine k_gr C0 F_Frame_9 hP e118 d_Frame_compute_65 ?_
      refine lv_iload_n hx hb d_Frame_compute_68 rfl (lv_at hl 2 rfl) ?_
      obtain ⟨x119, e120, h⟩ := ob h
      refine k_ai C0 hP e120 d_Frame_compute_69 ?_
      refine lv_goto (tgt := 74) hx hb d_Frame_compute_70 (by decide) ?_
      exact w_Frame_compute_74 C0 x0 x0 x119 hP hS (lv_sub hl [0] rfl) h
  rw [if_neg c112] at h
  by_cases c121 : x1 = 2
  · rw [if_pos c121] at h
    rw [c121]
    refine lv_tableIn hx hb d_Frame_compute_1 (by decide) (by decide) (ho := rfl) (tgt := 80) (by decide) ?_
    refine lv_aload_n hx hb d_Frame_compute_80 rfl (lv_at hl 0 rfl) ?_
    refine lv_iload_n hx hb d_Frame_compute_81 rfl (lv_at hl 2 rfl) ?_
    refine lv_aload_n hx hb d_Frame_compute_82 rfl (lv_at hl 0 rfl) ?_
    obtain ⟨_, e122, h⟩ := ob h
    obtain ⟨x125, M123, e124, h⟩ := ob2 h
    refine k_cV C0 L_Frame_42 (As := []) (c_Frame_pop l G x0 e124) ⟨rfl, rfl⟩ ⟨Nat.le_of_ble_eq_true rfl, Nat.le_of_ble_eq_true rfl⟩ hP hS (ck_of e122) ly_Frame rfl hl.1 rfl (Nat.le_of_ble_eq_true rfl) d_Frame_compute_83 ⟨Nat.zero_le _, Nat.zero_le _⟩ (fun H locs hP hS => ?_)
    obtain ⟨_, e126, h⟩ := ob h
    obtain ⟨M127, e128, h⟩ := ob h
    refine k_cVv C0 L_Frame_46 (As := [.int x2, .int x125]) (c_Frame_store l G x0 x2 x125 e128) ⟨rfl, rfl⟩ ⟨Nat.le_of_ble_eq_true rfl, Nat.le_of_ble_eq_true rfl⟩ hP hS (ck_of e126) ly_Frame rfl hl.1 rfl (Nat.le_of_ble_eq_true rfl) d_Frame_compute_86 ⟨Nat.zero_le _, Nat.zero_le _⟩ (fun H locs hP hS => ?_)
    refine lv_goto (tgt := 112) hx hb d_Frame_compute_89 (by decide) ?_
    exact w_Frame_compute_112 C0 x0 hP hS (lv_sub hl [0] rfl) h
  rw [if_neg c121] at h
  by_cases c129 : x1 = 3
  · rw [if_pos c129] at h
    rw [c129]
    refine lv_tableIn hx hb d_Frame_compute_1 (by decide) (by decide) (ho := rfl) (tgt := 107) (by decide) ?_
    refine lv_aload_n hx hb d_Frame_compute_107 rfl (lv_at hl 0 rfl) ?_
    refine lv_iload_n hx hb d_Frame_compute_108 rfl (lv_at hl 1 rfl) ?_
    obtain ⟨_, e130, h⟩ := ob h
    obtain ⟨M131, e132, h⟩ := ob h
    refine k_cVv C0 L_Frame_53 (As := [.int x1]) (c_Frame_combine l G x0 x1 e132) ⟨rfl, rfl⟩ ⟨Nat.le_of_ble_eq_true rfl, Nat.le_of_ble_eq_true rfl⟩ hP hS (ck_of e130) ly_Frame rfl hl.1 rfl (Nat.le_of_ble_eq_true rfl) d_Frame_compute_109 ⟨Nat.zero_le _, Nat.zero_le _⟩ (fun H locs hP hS => ?_)
    exact w_Frame_compute_112 C0 x0 hP hS (lv_sub hl [0] rfl) h
  rw [if_neg c129] at h
  by_cases c133 : x1 = 4
  · rw [if_pos c133] at h
    rw [c133]
    refine lv_tableIn hx hb d_Frame_compute_1 (by decide) (by decide) (ho := rfl) (tgt := 107) (by decide) ?_
    refine lv_aload_n hx hb d_Frame_compute_107 rfl (lv_at hl 0 rfl) ?_
    refine lv_iload_n hx hb d_Frame_compute_108 rfl (lv_at hl 1 rfl) ?_
    obtain ⟨_, e134, h⟩ := ob h
    obtain ⟨M135, e136, h⟩ := ob h
    refine k_cVv C0 L_Frame_53 (As := [.int x1]) (c_Frame_combine l G x0 x1 e136) ⟨rfl, rfl⟩ ⟨Nat.le_of_ble_eq_true rfl, Nat.le_of_ble_eq_true rfl⟩ hP hS (ck_of e134) ly_Frame rfl hl.1 rfl (Nat.le_of_ble_eq_true rfl) d_Frame_compute_109 ⟨Nat.zero_le _, Nat.zero_le _⟩ (fun H locs hP hS => ?_)
    exact w_Frame_compute_112 C0 x0 hP hS (lv_sub hl [0] rfl) h
  rw [if_neg c133] at h
  by_cases c137 : x1 = 5
  · rw [if_pos c137] at h
    rw [c137]
    refine lv_tableIn hx hb d_Frame_compute_1 (by decide) (by decide) (ho := rfl) (tgt := 107) (by decide) ?_
    refine lv_aload_n hx hb d_Frame_compute_107 rfl (lv_at hl 0 rfl) ?_
    refine lv_iload_n hx hb d_Frame_compute_108 rfl (lv_at hl 1 rfl) ?_
    obtain ⟨_, e138, h⟩ := ob h
    obtain ⟨M139, e140, h⟩ := ob h
    refine k_cVv C0 L_Frame_53 (As := [.int x1]) (c_Frame_combine l G x0 x1 e140) ⟨rfl, rfl⟩ ⟨Nat.le_of_ble_eq_true rfl, Nat.le_of_ble_eq_true rfl⟩ hP hS (ck_of e138) ly_Frame rfl hl.1 rfl (Nat.le_of_ble_eq_true rfl) d_Frame_compute_109 ⟨Nat.zero_le _, Nat.zero_le _⟩ (fun H locs hP hS => ?_)
    exact w_Frame_compute_112 C0 x0 hP hS (lv_sub hl [0] rfl) h
  rw [if_neg c137] at h
  by_cases c141 : x1 = 6
  · rw [if_pos c141] at h
    rw [c141]
    refine lv_tableIn hx hb d_Frame_compute_1 (by decide) (by decide) (ho := rfl) (tgt := 92) (by decide) ?_
    refine lv_aload_n hx hb d_Frame_compute_92 rfl (lv_at hl 0 rfl) ?_
    obtain ⟨_, e142, h⟩ := ob h
    obtain ⟨M143, e144, h⟩ := ob h
    refine k_cVv C0 L_Frame_50 (As := []) (c_Frame_duplicate l G x0 e144) ⟨rfl, rfl⟩ ⟨Nat.le_of_ble_eq_true rfl, Nat.le_of_ble_eq_true rfl⟩ hP hS (ck_of e142) ly_Frame rfl hl.1 rfl (Nat.le_of_ble_eq_true rfl) d_Frame_compute_93 ⟨Nat.zero_le _, Nat.zero_le _⟩ (fun H locs hP hS => ?_)
    refine lv_goto (tgt := 112) hx hb d_Frame_compute_96 (by decide) ?_
    exact w_Frame_compute_112 C0 x0 hP hS (lv_sub hl [0] rfl) h
  rw [if_neg c141] at h
  by_cases c145 : x1 = 7
  · rw [if_pos c145] at h
    rw [c145]
    refine lv_tableIn hx hb d_Frame_compute_1 (by decide) (by decide) (ho := rfl) (tgt := 99) (by decide) ?_
    refine lv_aload_n hx hb d_Frame_compute_99 rfl (lv_at hl 0 rfl) ?_
    obtain ⟨_, e146, h⟩ := ob h
    obtain ⟨x149, M147, e148, h⟩ := ob2 h
    refine k_cV C0 L_Frame_42 (As := []) (c_Frame_pop l G x0 e148) ⟨rfl, rfl⟩ ⟨Nat.le_of_ble_eq_true rfl, Nat.le_of_ble_eq_true rfl⟩ hP hS (ck_of e146) ly_Frame rfl hl.1 rfl (Nat.le_of_ble_eq_true rfl) d_Frame_compute_100 ⟨Nat.zero_le _, Nat.zero_le _⟩ (fun H locs hP hS => ?_)
    refine lv_pop hx hb d_Frame_compute_103 rfl ?_
    refine lv_goto (tgt := 112) hx hb d_Frame_compute_104 (by decide) ?_
    exact w_Frame_compute_112 C0 x0 hP hS (lv_sub hl [0] rfl) h
  rw [if_neg c145] at h
  have nc108 := lv_neT c108 ti_0
  have nc112 := lv_neT c112 ti_1
  have nc121 := lv_neT c121 ti_2
  have nc129 := lv_neT c129 ti_3
  have nc133 := lv_neT c133 ti_4
  have nc137 := lv_neT c137 ti_5
  have nc141 := lv_neT c141 ti_6
  have nc145 := lv_neT c145 ti_7
  refine lv_tableOut hx hb d_Frame_compute_1 (by omega) (tgt := 107) (by decide) ?_
  refine lv_aload_n hx hb d_Frame_compute_107 rfl (lv_at hl 0 rfl) ?_
  refine lv_iload_n hx hb d_Frame_compute_108 rfl (lv_at hl 1 rfl) ?_
  obtain ⟨_, e150, h⟩ := ob h
  obtain ⟨M151, e152, h⟩ := ob h
  refine k_cVv C0 L_Frame_53 (As := [.int x1]) (c_Frame_combine l G x0 x1 e152) ⟨rfl, rfl⟩ ⟨Nat.le_of_ble_eq_true rfl, Nat.le_of_ble_eq_true rfl⟩ hP hS (ck_of e150) ly_Frame rfl hl.1 rfl (Nat.le_of_ble_eq_true rfl) d_Frame_compute_109 ⟨Nat.zero_le _, Nat.zero_le _⟩ (fun H locs hP hS => ?_)
  exact w_Frame_compute_112 C0 x0 hP hS (lv_sub hl [0] rfl) h
/-! AllocationProfiler$Frame.branch -/
def rm_Frame_branch : Room := { frames := 1, cells := 0, slots := 0, locals := 20 }
theorem d_Frame_branch_0 : decode b_Frame_branch 0 = .ok (.iload_n 1, 1) := by decide +kernel
theorem d_Frame_branch_1 : decode b_Frame_branch 1 = .ok (.bipush 8, 2) := by decide +kernel
theorem d_Frame_branch_3 : decode b_Frame_branch 3 = .ok (.if_icmp .ne 7, 3) := by decide +kernel
theorem d_Frame_branch_6 : decode b_Frame_branch 6 = .ok (.iconst 1, 1) := by decide +kernel
theorem d_Frame_branch_7 : decode b_Frame_branch 7 = .ok (.goto 4, 3) := by decide +kernel
theorem d_Frame_branch_10 : decode b_Frame_branch 10 = .ok (.iconst 0, 1) := by decide +kernel
theorem d_Frame_branch_11 : decode b_Frame_branch 11 = .ok (.istore_n 3, 1) := by decide +kernel
theorem d_Frame_branch_12 : decode b_Frame_branch 12 = .ok (.iload_n 1, 1) := by decide +kernel
theorem d_Frame_branch_13 : decode b_Frame_branch 13 = .ok (.bipush 9, 2) := by decide +kernel
theorem d_Frame_branch_15 : decode b_Frame_branch 15 = .ok (.if_icmp .ne 16, 3) := by decide +kernel
theorem d_Frame_branch_18 : decode b_Frame_branch 18 = .ok (.aload_n 0, 1) := by decide +kernel
theorem d_Frame_branch_19 : decode b_Frame_branch 19 = .ok (.invokevirtual 42, 3) := by decide +kernel
theorem d_Frame_branch_22 : decode b_Frame_branch 22 = .ok (.ifCond .ne 7, 3) := by decide +kernel
theorem d_Frame_branch_25 : decode b_Frame_branch 25 = .ok (.iconst 1, 1) := by decide +kernel
theorem d_Frame_branch_26 : decode b_Frame_branch 26 = .ok (.goto 4, 3) := by decide +kernel
theorem d_Frame_branch_29 : decode b_Frame_branch 29 = .ok (.iconst 0, 1) := by decide +kernel
theorem d_Frame_branch_30 : decode b_Frame_branch 30 = .ok (.istore_n 3, 1) := by decide +kernel
theorem d_Frame_branch_31 : decode b_Frame_branch 31 = .ok (.iload_n 1, 1) := by decide +kernel
theorem d_Frame_branch_32 : decode b_Frame_branch 32 = .ok (.bipush 10, 2) := by decide +kernel
theorem d_Frame_branch_34 : decode b_Frame_branch 34 = .ok (.if_icmp .ne 16, 3) := by decide +kernel
theorem d_Frame_branch_37 : decode b_Frame_branch 37 = .ok (.aload_n 0, 1) := by decide +kernel
theorem d_Frame_branch_38 : decode b_Frame_branch 38 = .ok (.invokevirtual 42, 3) := by decide +kernel
theorem d_Frame_branch_41 : decode b_Frame_branch 41 = .ok (.ifCond .ge 7, 3) := by decide +kernel
theorem d_Frame_branch_44 : decode b_Frame_branch 44 = .ok (.iconst 1, 1) := by decide +kernel
theorem d_Frame_branch_45 : decode b_Frame_branch 45 = .ok (.goto 4, 3) := by decide +kernel
theorem d_Frame_branch_48 : decode b_Frame_branch 48 = .ok (.iconst 0, 1) := by decide +kernel
theorem d_Frame_branch_49 : decode b_Frame_branch 49 = .ok (.istore_n 3, 1) := by decide +kernel
theorem d_Frame_branch_50 : decode b_Frame_branch 50 = .ok (.aload_n 0, 1) := by decide +kernel
theorem d_Frame_branch_51 : decode b_Frame_branch 51 = .ok (.iload_n 3, 1) := by decide +kernel
theorem d_Frame_branch_52 : decode b_Frame_branch 52 = .ok (.ifCond .eq 7, 3) := by decide +kernel
theorem d_Frame_branch_55 : decode b_Frame_branch 55 = .ok (.iload_n 2, 1) := by decide +kernel
theorem d_Frame_branch_56 : decode b_Frame_branch 56 = .ok (.goto 9, 3) := by decide +kernel
theorem d_Frame_branch_59 : decode b_Frame_branch 59 = .ok (.aload_n 0, 1) := by decide +kernel
theorem d_Frame_branch_60 : decode b_Frame_branch 60 = .ok (.getfield 22, 3) := by decide +kernel
theorem d_Frame_branch_63 : decode b_Frame_branch 63 = .ok (.iconst 1, 1) := by decide +kernel
theorem d_Frame_branch_64 : decode b_Frame_branch 64 = .ok (.iadd, 1) := by decide +kernel
theorem d_Frame_branch_65 : decode b_Frame_branch 65 = .ok (.putfield 22, 3) := by decide +kernel
theorem d_Frame_branch_68 : decode b_Frame_branch 68 = .ok (.return_, 1) := by decide +kernel
def j_Frame_branch_50 (x0 : Nat) (x2 : Int32) (x3 : Int32) (M : fm_M) : Option fm_M :=
  if x3 = 0 then
    (gi x0 2 3 M).bind fun x102 =>
    (pi x0 2 3 (x102 + 1) M).bind fun M104 =>
    some M104
  else
    (pi x0 2 3 x2 M).bind fun M106 =>
    some M106
def j_Frame_branch_49 (x0 : Nat) (x2 : Int32) (s0 : Int32) (M : fm_M) : Option fm_M :=
  j_Frame_branch_50 x0 x2 s0 M
def j_Frame_branch_31 (x0 : Nat) (x1 : Int32) (x2 : Int32) (x3 : Int32) (M : fm_M) : Option fm_M :=
  if x1 = 10 then
    (ck x0 2).bind fun _ =>
    bd (f_Frame_pop x0 M) fun x112 M110 =>
    if 0 ≤ x112 then
      j_Frame_branch_49 x0 x2 0 M110
    else
      j_Frame_branch_49 x0 x2 1 M110
  else
    j_Frame_branch_50 x0 x2 x3 M
def j_Frame_branch_30 (x0 : Nat) (x1 : Int32) (x2 : Int32) (s0 : Int32) (M : fm_M) : Option fm_M :=
  j_Frame_branch_31 x0 x1 x2 s0 M
def j_Frame_branch_11 (x0 : Nat) (x1 : Int32) (x2 : Int32) (s0 : Int32) (M : fm_M) : Option fm_M :=
  if x1 = 9 then
    (ck x0 2).bind fun _ =>
    bd (f_Frame_pop x0 M) fun x118 M116 =>
    if x118 = 0 then
      j_Frame_branch_30 x0 x1 x2 1 M116
    else
      j_Frame_branch_30 x0 x1 x2 0 M116
  else
    j_Frame_branch_31 x0 x1 x2 s0 M
def f_Frame_branch (x0 : Nat) (x1 : Int32) (x2 : Int32) (M : fm_M) : Option fm_M :=
  if x1 = 8 then
    j_Frame_branch_11 x0 x1 x2 1 M
  else
    j_Frame_branch_11 x0 x1 x2 0 M
set_option maxHeartbeats 4000000 in
set_option maxRecDepth 100000 in
theorem w_Frame_branch_50 {p : Program} {l : Launch} {e : Env} {s : State} {m : MethodId} {args : Array Value} {below : List Frame} {meth : Method} {c : Code} {G : fm_G} (C0 : fm_C p s m args meth c G (.code y_Frame_branch b_Frame_branch 4 none) "AllocationProfiler$Frame" b_Frame_branch 4 none) {M' : fm_M} (x0 : Nat) (x2 : Int32) (x3 : Int32) {M : fm_M} {H : Heap} {locs : List Loc} (hP : kP G M H) (hS : kS G s H locs) {ls : Array Slot} (hl : lv_has ls 4 [(0, .ref (G.2.2 + x0)), (2, .int x2), (3, .int x3)]) (h : j_Frame_branch_50 x0 x2 x3 M = some M') : W p l e rm_Frame_branch s m args below meth c H locs 0 0 (MQ below (fm_Q G 212 shF none M') args s 0 0 (fm_A G.2.2)) (F0 m 50 ls []) := by
  have hx := C0.1
  have hb := C0.2.1
  unfold j_Frame_branch_50 at h
  refine lv_aload_n hx hb d_Frame_branch_50 rfl (lv_at hl 0 rfl) ?_
  refine lv_iload_n hx hb d_Frame_branch_51 rfl (lv_at hl 2 rfl) ?_
  refine lv_if_eq (tgt := 59) hx hb d_Frame_branch_52 (by decide) (fun c101 => ?_) (fun c101 => ?_)
  · rw [if_pos c101] at h
    refine lv_aload_n hx hb d_Frame_branch_59 rfl (lv_at hl 0 rfl) ?_
    obtain ⟨x102, e103, h⟩ := ob h
    refine k_gi C0 F_Frame_22 ik_2_3 hP e103 d_Frame_branch_60 ?_
    refine lv_iconst (v := 1) hx hb d_Frame_branch_63 ic_1 ?_
    refine lv_iadd hx hb d_Frame_branch_64 ?_
    obtain ⟨M104, e105, h⟩ := ob h
    refine k_pi C0 F_Frame_22p ik_2_3 hP hS e105 d_Frame_branch_65 (fun H locs hP hS => ?_)
    cases h
    exact r_vret C0 hP hS d_Frame_branch_68
  · rw [if_neg c101] at h
    refine lv_iload_n hx hb d_Frame_branch_55 rfl (lv_at hl 1 rfl) ?_
    refine lv_goto (tgt := 65) hx hb d_Frame_branch_56 (by decide) ?_
    obtain ⟨M106, e107, h⟩ := ob h
    refine k_pi C0 F_Frame_22p ik_2_3 hP hS e107 d_Frame_branch_65 (fun H locs hP hS => ?_)
    cases h
    exact r_vret C0 hP hS d_Frame_branch_68
set_option maxHeartbeats 4000000 in
set_option maxRecDepth 100000 in
theorem w_Frame_branch_49 {p : Program} {l : Launch} {e : Env} {s : State} {m : MethodId} {args : Array Value} {below : List Frame} {meth : Method} {c : Code} {G : fm_G} (C0 : fm_C p s m args meth c G (.code y_Frame_branch b_Frame_branch 4 none) "AllocationProfiler$Frame" b_Frame_branch 4 none) {M' : fm_M} (x0 : Nat) (x2 : Int32) (s0 : Int32) {M : fm_M} {H : Heap} {locs : List Loc} (hP : kP G M H) (hS : kS G s H locs) {ls : Array Slot} (hl : lv_has ls 4 [(0, .ref (G.2.2 + x0)), (2, .int x2)]) (h : j_Frame_branch_49 x0 x2 s0 M = some M') : W p l e rm_Frame_branch s m args below meth c H locs 0 0 (MQ below (fm_Q G 212 shF none M') args s 0 0 (fm_A G.2.2)) (F0 m 49 ls [.int s0]) := by
  have hx := C0.1
  have hb := C0.2.1
  unfold j_Frame_branch_49 at h
  refine lv_istore_n (lv' := [(3, .int s0), (0, .ref (G.2.2 + x0)), (2, .int x2)]) hx hb d_Frame_branch_49 rfl hl (by decide) rfl (fun ls hl => ?_)
  exact w_Frame_branch_50 C0 x0 x2 s0 hP hS (lv_sub hl [1, 2, 0] rfl) h
set_option maxHeartbeats 4000000 in
set_option maxRecDepth 100000 in
theorem w_Frame_branch_31 {p : Program} {l : Launch} {e : Env} {s : State} {m : MethodId} {args : Array Value} {below : List Frame} {meth : Method} {c : Code} {G : fm_G} (C0 : fm_C p s m args meth c G (.code y_Frame_branch b_Frame_branch 4 none) "AllocationProfiler$Frame" b_Frame_branch 4 none) {M' : fm_M} (x0 : Nat) (x1 : Int32) (x2 : Int32) (x3 : Int32) {M : fm_M} {H : Heap} {locs : List Loc} (hP : kP G M H) (hS : kS G s H locs) {ls : Array Slot} (hl : lv_has ls 4 [(0, .ref (G.2.2 + x0)), (1, .int x1), (2, .int x2), (3, .int x3)]) (h : j_Frame_branch_31 x0 x1 x2 x3 M = some M') : W p l e rm_Frame_branch s m args below meth c H locs 0 0 (MQ below (fm_Q G 212 shF none M') args s 0 0 (fm_A G.2.2)) (F0 m 31 ls []) := by
  have hx := C0.1
  have hb := C0.2.1
  unfold j_Frame_branch_31 at h
  refine lv_iload_n hx hb d_Frame_branch_31 rfl (lv_at hl 1 rfl) ?_
  refine lv_bipush (v := 10) hx hb d_Frame_branch_32 bp_10 ?_
  refine lv_icmp_ne (tgt := 50) hx hb d_Frame_branch_34 (by decide) (fun c108 => ?_) (fun c108 => ?_)
  · rw [if_neg c108] at h
    exact w_Frame_branch_50 C0 x0 x2 x3 hP hS (lv_sub hl [0, 2, 3] rfl) h
  · rw [if_pos c108] at h
    refine lv_aload_n hx hb d_Frame_branch_37 rfl (lv_at hl 0 rfl) ?_
    obtain ⟨_, e109, h⟩ := ob h
    obtain ⟨x112, M110, e111, h⟩ := ob2 h
    refine k_cV C0 L_Frame_42 (As := []) (c_Frame_pop l G x0 e111) ⟨rfl, rfl⟩ ⟨Nat.le_of_ble_eq_true rfl, Nat.le_of_ble_eq_true rfl⟩ hP hS (ck_of e109) ly_Frame rfl hl.1 rfl (Nat.le_of_ble_eq_true rfl) d_Frame_branch_38 ⟨Nat.zero_le _, Nat.zero_le _⟩ (fun H locs hP hS => ?_)
    refine lv_if_ge (tgt := 48) hx hb d_Frame_branch_41 (by decide) (fun c113 => ?_) (fun c113 => ?_)
    · rw [if_pos c113] at h
      refine lv_iconst (v := 0) hx hb d_Frame_branch_48 ic_0 ?_
      exact w_Frame_branch_49 C0 x0 x2 0 hP hS (lv_sub hl [0, 2] rfl) h
    · rw [if_neg c113] at h
      refine lv_iconst (v := 1) hx hb d_Frame_branch_44 ic_1 ?_
      refine lv_goto (tgt := 49) hx hb d_Frame_branch_45 (by decide) ?_
      exact w_Frame_branch_49 C0 x0 x2 1 hP hS (lv_sub hl [0, 2] rfl) h
set_option maxHeartbeats 4000000 in
set_option maxRecDepth 100000 in
theorem w_Frame_branch_30 {p : Program} {l : Launch} {e : Env} {s : State} {m : MethodId} {args : Array Value} {below : List Frame} {meth : Method} {c : Code} {G : fm_G} (C0 : fm_C p s m args meth c G (.code y_Frame_branch b_Frame_branch 4 none) "AllocationProfiler$Frame" b_Frame_branch 4 none) {M' : fm_M} (x0 : Nat) (x1 : Int32) (x2 : Int32) (s0 : Int32) {M : fm_M} {H : Heap} {locs : List Loc} (hP : kP G M H) (hS : kS G s H locs) {ls : Array Slot} (hl : lv_has ls 4 [(0, .ref (G.2.2 + x0)), (1, .int x1), (2, .int x2)]) (h : j_Frame_branch_30 x0 x1 x2 s0 M = some M') : W p l e rm_Frame_branch s m args below meth c H locs 0 0 (MQ below (fm_Q G 212 shF none M') args s 0 0 (fm_A G.2.2)) (F0 m 30 ls [.int s0]) := by
  have hx := C0.1
  have hb := C0.2.1
  unfold j_Frame_branch_30 at h
  refine lv_istore_n (lv' := [(3, .int s0), (0, .ref (G.2.2 + x0)), (1, .int x1), (2, .int x2)]) hx hb d_Frame_branch_30 rfl hl (by decide) rfl (fun ls hl => ?_)
  exact w_Frame_branch_31 C0 x0 x1 x2 s0 hP hS (lv_sub hl [1, 2, 3, 0] rfl) h
set_option maxHeartbeats 4000000 in
set_option maxRecDepth 100000 in
theorem w_Frame_branch_11 {p : Program} {l : Launch} {e : Env} {s : State} {m : MethodId} {args : Array Value} {below : List Frame} {meth : Method} {c : Code} {G : fm_G} (C0 : fm_C p s m args meth c G (.code y_Frame_branch b_Frame_branch 4 none) "AllocationProfiler$Frame" b_Frame_branch 4 none) {M' : fm_M} (x0 : Nat) (x1 : Int32) (x2 : Int32) (s0 : Int32) {M : fm_M} {H : Heap} {locs : List Loc} (hP : kP G M H) (hS : kS G s H locs) {ls : Array Slot} (hl : lv_has ls 4 [(0, .ref (G.2.2 + x0)), (1, .int x1), (2, .int x2)]) (h : j_Frame_branch_11 x0 x1 x2 s0 M = some M') : W p l e rm_Frame_branch s m args below meth c H locs 0 0 (MQ below (fm_Q G 212 shF none M') args s 0 0 (fm_A G.2.2)) (F0 m 11 ls [.int s0]) := by
  have hx := C0.1
  have hb := C0.2.1
  unfold j_Frame_branch_11 at h
  refine lv_istore_n (lv' := [(3, .int s0), (0, .ref (G.2.2 + x0)), (1, .int x1), (2, .int x2)]) hx hb d_Frame_branch_11 rfl hl (by decide) rfl (fun ls hl => ?_)
  refine lv_iload_n hx hb d_Frame_branch_12 rfl (lv_at hl 2 rfl) ?_
  refine lv_bipush (v := 9) hx hb d_Frame_branch_13 bp_9 ?_
  refine lv_icmp_ne (tgt := 31) hx hb d_Frame_branch_15 (by decide) (fun c114 => ?_) (fun c114 => ?_)
  · rw [if_neg c114] at h
    exact w_Frame_branch_31 C0 x0 x1 x2 s0 hP hS (lv_sub hl [1, 2, 3, 0] rfl) h
  · rw [if_pos c114] at h
    refine lv_aload_n hx hb d_Frame_branch_18 rfl (lv_at hl 1 rfl) ?_
    obtain ⟨_, e115, h⟩ := ob h
    obtain ⟨x118, M116, e117, h⟩ := ob2 h
    refine k_cV C0 L_Frame_42 (As := []) (c_Frame_pop l G x0 e117) ⟨rfl, rfl⟩ ⟨Nat.le_of_ble_eq_true rfl, Nat.le_of_ble_eq_true rfl⟩ hP hS (ck_of e115) ly_Frame rfl hl.1 rfl (Nat.le_of_ble_eq_true rfl) d_Frame_branch_19 ⟨Nat.zero_le _, Nat.zero_le _⟩ (fun H locs hP hS => ?_)
    refine lv_if_ne (tgt := 29) hx hb d_Frame_branch_22 (by decide) (fun c119 => ?_) (fun c119 => ?_)
    · rw [if_neg c119] at h
      refine lv_iconst (v := 0) hx hb d_Frame_branch_29 ic_0 ?_
      exact w_Frame_branch_30 C0 x0 x1 x2 0 hP hS (lv_sub hl [1, 2, 3] rfl) h
    · rw [if_pos c119] at h
      refine lv_iconst (v := 1) hx hb d_Frame_branch_25 ic_1 ?_
      refine lv_goto (tgt := 30) hx hb d_Frame_branch_26 (by decide) ?_
      exact w_Frame_branch_30 C0 x0 x1 x2 1 hP hS (lv_sub hl [1, 2, 3] rfl) h
set_option maxHeartbeats 4000000 in
set_option maxRecDepth 100000 in
theorem c_Frame_branch (l : Launch) (G : fm_G) (x0 : Nat) (x1 : Int32) (x2 : Int32) {M M' : fm_M} (h : f_Frame_branch x0 x1 x2 M = some M') : kMet l y_Frame_branch b_Frame_branch 4 none rm_Frame_branch G M [.ref (G.2.2 + x0), .int x1, .int x2] none M' := by
  refine r_met (by decide) rfl (Nat.le_of_ble_eq_true rfl) (fun p e s m args below meth c C0 hP ls hl => ?_)
  have hx := C0.1
  have hb := C0.2.1
  have hl : lv_has ls 4 [(0, .ref (G.2.2 + x0)), (1, .int x1), (2, .int x2)] := hl
  have hS : va_S (fm_A G.2.2) s.heap s.heap [] := va_S.rf
  unfold f_Frame_branch at h
  refine lv_iload_n hx hb d_Frame_branch_0 rfl (lv_at hl 1 rfl) ?_
  refine lv_bipush (v := 8) hx hb d_Frame_branch_1 bp_8 ?_
  refine lv_icmp_ne (tgt := 10) hx hb d_Frame_branch_3 (by decide) (fun c120 => ?_) (fun c120 => ?_)
  · rw [if_neg c120] at h
    refine lv_iconst (v := 0) hx hb d_Frame_branch_10 ic_0 ?_
    exact w_Frame_branch_11 C0 x0 x1 x2 0 hP hS (lv_sub hl [0, 1, 2] rfl) h
  · rw [if_pos c120] at h
    refine lv_iconst (v := 1) hx hb d_Frame_branch_6 ic_1 ?_
    refine lv_goto (tgt := 11) hx hb d_Frame_branch_7 (by decide) ?_
    exact w_Frame_branch_11 C0 x0 x1 x2 1 hP hS (lv_sub hl [0, 1, 2] rfl) h
/-! AllocationProfiler$Strand.isRunning -/
def rm_Strand_isRunning : Room := { frames := 0, cells := 0, slots := 0, locals := 0 }
theorem d_Strand_isRunning_0 : decode b_Strand_isRunning 0 = .ok (.aload_n 0, 1) := by decide +kernel
theorem d_Strand_isRunning_1 : decode b_Strand_isRunning 1 = .ok (.getfield 17, 3) := by decide +kernel
theorem d_Strand_isRunning_4 : decode b_Strand_isRunning 4 = .ok (.ifCond .le 7, 3) := by decide +kernel
theorem d_Strand_isRunning_7 : decode b_Strand_isRunning 7 = .ok (.iconst 1, 1) := by decide +kernel
theorem d_Strand_isRunning_8 : decode b_Strand_isRunning 8 = .ok (.goto 4, 3) := by decide +kernel
theorem d_Strand_isRunning_11 : decode b_Strand_isRunning 11 = .ok (.iconst 0, 1) := by decide +kernel
theorem d_Strand_isRunning_12 : decode b_Strand_isRunning 12 = .ok (.ireturn, 1) := by decide +kernel
def f_Strand_isRunning (x0 : Nat) (M : fm_M) : Option (Int32 × fm_M) :=
  (gi x0 7 2 M).bind fun x101 =>
  if x101 ≤ 0 then
    some (0, M)
  else
    some (1, M)
set_option maxHeartbeats 4000000 in
set_option maxRecDepth 100000 in
theorem c_Strand_isRunning (l : Launch) (G : fm_G) (x0 : Nat) {v : Int32} {M M' : fm_M} (h : f_Strand_isRunning x0 M = some (v, M')) : kMet l y_Strand_isRunning b_Strand_isRunning 1 (some .boolean) rm_Strand_isRunning G M [.ref (G.2.2 + x0)] (some (.int v)) M' := by
  refine r_met (by decide) rfl (Nat.le_of_ble_eq_true rfl) (fun p e s m args below meth c C0 hP ls hl => ?_)
  have hx := C0.1
  have hb := C0.2.1
  have hl : lv_has ls 1 [(0, .ref (G.2.2 + x0))] := hl
  have hS : va_S (fm_A G.2.2) s.heap s.heap [] := va_S.rf
  unfold f_Strand_isRunning at h
  refine lv_aload_n hx hb d_Strand_isRunning_0 rfl (lv_at hl 0 rfl) ?_
  obtain ⟨x101, e102, h⟩ := ob h
  refine k_gi C0 F_Strand_17 ik_7_2 hP e102 d_Strand_isRunning_1 ?_
  refine lv_if_le (tgt := 11) hx hb d_Strand_isRunning_4 (by decide) (fun c103 => ?_) (fun c103 => ?_)
  · rw [if_pos c103] at h
    refine lv_iconst (v := 0) hx hb d_Strand_isRunning_11 ic_0 ?_
    cases h
    exact r_zret C0 hP hS (Or.inl rfl) d_Strand_isRunning_12
  · rw [if_neg c103] at h
    refine lv_iconst (v := 1) hx hb d_Strand_isRunning_7 ic_1 ?_
    refine lv_goto (tgt := 12) hx hb d_Strand_isRunning_8 (by decide) ?_
    cases h
    exact r_zret C0 hP hS (Or.inr rfl) d_Strand_isRunning_12
/-! AllocationProfiler$Strand.isDeep -/
def rm_Strand_isDeep : Room := { frames := 0, cells := 0, slots := 0, locals := 0 }
theorem d_Strand_isDeep_0 : decode b_Strand_isDeep 0 = .ok (.aload_n 0, 1) := by decide +kernel
theorem d_Strand_isDeep_1 : decode b_Strand_isDeep 1 = .ok (.getfield 17, 3) := by decide +kernel
theorem d_Strand_isDeep_4 : decode b_Strand_isDeep 4 = .ok (.iconst 5, 1) := by decide +kernel
theorem d_Strand_isDeep_5 : decode b_Strand_isDeep 5 = .ok (.if_icmp .lt 7, 3) := by decide +kernel
theorem d_Strand_isDeep_8 : decode b_Strand_isDeep 8 = .ok (.iconst 1, 1) := by decide +kernel
theorem d_Strand_isDeep_9 : decode b_Strand_isDeep 9 = .ok (.goto 4, 3) := by decide +kernel
theorem d_Strand_isDeep_12 : decode b_Strand_isDeep 12 = .ok (.iconst 0, 1) := by decide +kernel
theorem d_Strand_isDeep_13 : decode b_Strand_isDeep 13 = .ok (.ireturn, 1) := by decide +kernel
def f_Strand_isDeep (x0 : Nat) (M : fm_M) : Option (Int32 × fm_M) :=
  (gi x0 7 2 M).bind fun x101 =>
  if x101 < 5 then
    some (0, M)
  else
    some (1, M)
set_option maxHeartbeats 4000000 in
set_option maxRecDepth 100000 in
theorem c_Strand_isDeep (l : Launch) (G : fm_G) (x0 : Nat) {v : Int32} {M M' : fm_M} (h : f_Strand_isDeep x0 M = some (v, M')) : kMet l y_Strand_isDeep b_Strand_isDeep 1 (some .boolean) rm_Strand_isDeep G M [.ref (G.2.2 + x0)] (some (.int v)) M' := by
  refine r_met (by decide) rfl (Nat.le_of_ble_eq_true rfl) (fun p e s m args below meth c C0 hP ls hl => ?_)
  have hx := C0.1
  have hb := C0.2.1
  have hl : lv_has ls 1 [(0, .ref (G.2.2 + x0))] := hl
  have hS : va_S (fm_A G.2.2) s.heap s.heap [] := va_S.rf
  unfold f_Strand_isDeep at h
  refine lv_aload_n hx hb d_Strand_isDeep_0 rfl (lv_at hl 0 rfl) ?_
  obtain ⟨x101, e102, h⟩ := ob h
  refine k_gi C0 F_Strand_17 ik_7_2 hP e102 d_Strand_isDeep_1 ?_
  refine lv_iconst (v := 5) hx hb d_Strand_isDeep_4 ic_5 ?_
  refine lv_icmp_lt (tgt := 12) hx hb d_Strand_isDeep_5 (by decide) (fun c103 => ?_) (fun c103 => ?_)
  · rw [if_pos c103] at h
    refine lv_iconst (v := 0) hx hb d_Strand_isDeep_12 ic_0 ?_
    cases h
    exact r_zret C0 hP hS (Or.inl rfl) d_Strand_isDeep_13
  · rw [if_neg c103] at h
    refine lv_iconst (v := 1) hx hb d_Strand_isDeep_8 ic_1 ?_
    refine lv_goto (tgt := 13) hx hb d_Strand_isDeep_9 (by decide) ?_
    cases h
    exact r_zret C0 hP hS (Or.inr rfl) d_Strand_isDeep_13
/-! AllocationProfiler$Strand.condition -/
def rm_Strand_condition : Room := { frames := 1, cells := 0, slots := 0, locals := 20 }
theorem d_Strand_condition_0 : decode b_Strand_condition 0 = .ok (.aload_n 0, 1) := by decide +kernel
theorem d_Strand_condition_1 : decode b_Strand_condition 1 = .ok (.invokevirtual 31, 3) := by decide +kernel
theorem d_Strand_condition_4 : decode b_Strand_condition 4 = .ok (.ifCond .eq 7, 3) := by decide +kernel
theorem d_Strand_condition_7 : decode b_Strand_condition 7 = .ok (.iconst 1, 1) := by decide +kernel
theorem d_Strand_condition_8 : decode b_Strand_condition 8 = .ok (.goto 7, 3) := by decide +kernel
theorem d_Strand_condition_11 : decode b_Strand_condition 11 = .ok (.aload_n 0, 1) := by decide +kernel
theorem d_Strand_condition_12 : decode b_Strand_condition 12 = .ok (.getfield 21, 3) := by decide +kernel
theorem d_Strand_condition_15 : decode b_Strand_condition 15 = .ok (.ireturn, 1) := by decide +kernel
def f_Strand_condition (x0 : Nat) (M : fm_M) : Option (Int32 × fm_M) :=
  (ck x0 7).bind fun _ =>
  bd (f_Strand_isRunning x0 M) fun x104 M102 =>
  if x104 = 0 then
    (gi x0 7 3 M102).bind fun x106 =>
    some (x106, M102)
  else
    some (1, M102)
set_option maxHeartbeats 4000000 in
set_option maxRecDepth 100000 in
theorem c_Strand_condition (l : Launch) (G : fm_G) (x0 : Nat) {v : Int32} {M M' : fm_M} (h : f_Strand_condition x0 M = some (v, M')) : kMet l y_Strand_condition b_Strand_condition 1 (some .int) rm_Strand_condition G M [.ref (G.2.2 + x0)] (some (.int v)) M' := by
  refine r_met (by decide) rfl (Nat.le_of_ble_eq_true rfl) (fun p e s m args below meth c C0 hP ls hl => ?_)
  have hx := C0.1
  have hb := C0.2.1
  have hl : lv_has ls 1 [(0, .ref (G.2.2 + x0))] := hl
  have hS : va_S (fm_A G.2.2) s.heap s.heap [] := va_S.rf
  unfold f_Strand_condition at h
  refine lv_aload_n hx hb d_Strand_condition_0 rfl (lv_at hl 0 rfl) ?_
  obtain ⟨_, e101, h⟩ := ob h
  obtain ⟨x104, M102, e103, h⟩ := ob2 h
  refine k_cV C0 L_Strand_31 (As := []) (c_Strand_isRunning l G x0 e103) ⟨rfl, rfl⟩ ⟨Nat.le_of_ble_eq_true rfl, Nat.le_of_ble_eq_true rfl⟩ hP hS (ck_of e101) ly_Strand rfl hl.1 rfl (Nat.le_of_ble_eq_true rfl) d_Strand_condition_1 ⟨Nat.zero_le _, Nat.zero_le _⟩ (fun H locs hP hS => ?_)
  refine lv_if_eq (tgt := 11) hx hb d_Strand_condition_4 (by decide) (fun c105 => ?_) (fun c105 => ?_)
  · rw [if_pos c105] at h
    refine lv_aload_n hx hb d_Strand_condition_11 rfl (lv_at hl 0 rfl) ?_
    obtain ⟨x106, e107, h⟩ := ob h
    refine k_gi C0 F_Strand_21 ik_7_3 hP e107 d_Strand_condition_12 ?_
    cases h
    exact r_iret C0 hP hS d_Strand_condition_15
  · rw [if_neg c105] at h
    refine lv_iconst (v := 1) hx hb d_Strand_condition_7 ic_1 ?_
    refine lv_goto (tgt := 15) hx hb d_Strand_condition_8 (by decide) ?_
    cases h
    exact r_iret C0 hP hS d_Strand_condition_15
/-! AllocationProfiler$Strand.enter -/
def rm_Strand_enter : Room := { frames := 2, cells := 0, slots := 0, locals := 45 }
theorem d_Strand_enter_0 : decode b_Strand_enter 0 = .ok (.aload_n 0, 1) := by decide +kernel
theorem d_Strand_enter_1 : decode b_Strand_enter 1 = .ok (.invokevirtual 35, 3) := by decide +kernel
theorem d_Strand_enter_4 : decode b_Strand_enter 4 = .ok (.ifCond .ne 27, 3) := by decide +kernel
theorem d_Strand_enter_7 : decode b_Strand_enter 7 = .ok (.aload_n 0, 1) := by decide +kernel
theorem d_Strand_enter_8 : decode b_Strand_enter 8 = .ok (.getfield 11, 3) := by decide +kernel
theorem d_Strand_enter_11 : decode b_Strand_enter 11 = .ok (.aload_n 0, 1) := by decide +kernel
theorem d_Strand_enter_12 : decode b_Strand_enter 12 = .ok (.getfield 17, 3) := by decide +kernel
theorem d_Strand_enter_15 : decode b_Strand_enter 15 = .ok (.aaload, 1) := by decide +kernel
theorem d_Strand_enter_16 : decode b_Strand_enter 16 = .ok (.iload_n 1, 1) := by decide +kernel
theorem d_Strand_enter_17 : decode b_Strand_enter 17 = .ok (.iload_n 2, 1) := by decide +kernel
theorem d_Strand_enter_18 : decode b_Strand_enter 18 = .ok (.invokevirtual 38, 3) := by decide +kernel
theorem d_Strand_enter_21 : decode b_Strand_enter 21 = .ok (.aload_n 0, 1) := by decide +kernel
theorem d_Strand_enter_22 : decode b_Strand_enter 22 = .ok (.dup, 1) := by decide +kernel
theorem d_Strand_enter_23 : decode b_Strand_enter 23 = .ok (.getfield 17, 3) := by decide +kernel
theorem d_Strand_enter_26 : decode b_Strand_enter 26 = .ok (.iconst 1, 1) := by decide +kernel
theorem d_Strand_enter_27 : decode b_Strand_enter 27 = .ok (.iadd, 1) := by decide +kernel
theorem d_Strand_enter_28 : decode b_Strand_enter 28 = .ok (.putfield 17, 3) := by decide +kernel
theorem d_Strand_enter_31 : decode b_Strand_enter 31 = .ok (.return_, 1) := by decide +kernel
def f_Strand_enter (x0 : Nat) (x1 : Int32) (x2 : Int32) (M : fm_M) : Option fm_M :=
  (ck x0 7).bind fun _ =>
  bd (f_Strand_isDeep x0 M) fun x104 M102 =>
  if x104 = 0 then
    (gr x0 7 0).bind fun q106 =>
    (gi x0 7 2 M102).bind fun x108 =>
    (ar q106 x108).bind fun q110 =>
    (ck q110 2).bind fun _ =>
    (f_Frame_begin q110 x1 x2 M102).bind fun M113 =>
    (gi x0 7 2 M113).bind fun x115 =>
    (pi x0 7 2 (x115 + 1) M113).bind fun M117 =>
    some M117
  else
    some M102
set_option maxHeartbeats 4000000 in
set_option maxRecDepth 100000 in
theorem c_Strand_enter (l : Launch) (G : fm_G) (x0 : Nat) (x1 : Int32) (x2 : Int32) {M M' : fm_M} (h : f_Strand_enter x0 x1 x2 M = some M') : kMet l y_Strand_enter b_Strand_enter 3 none rm_Strand_enter G M [.ref (G.2.2 + x0), .int x1, .int x2] none M' := by
  refine r_met (by decide) rfl (Nat.le_of_ble_eq_true rfl) (fun p e s m args below meth c C0 hP ls hl => ?_)
  have hx := C0.1
  have hb := C0.2.1
  have hl : lv_has ls 3 [(0, .ref (G.2.2 + x0)), (1, .int x1), (2, .int x2)] := hl
  have hS : va_S (fm_A G.2.2) s.heap s.heap [] := va_S.rf
  unfold f_Strand_enter at h
  refine lv_aload_n hx hb d_Strand_enter_0 rfl (lv_at hl 0 rfl) ?_
  obtain ⟨_, e101, h⟩ := ob h
  obtain ⟨x104, M102, e103, h⟩ := ob2 h
  refine k_cV C0 L_Strand_35 (As := []) (c_Strand_isDeep l G x0 e103) ⟨rfl, rfl⟩ ⟨Nat.le_of_ble_eq_true rfl, Nat.le_of_ble_eq_true rfl⟩ hP hS (ck_of e101) ly_Strand rfl hl.1 rfl (Nat.le_of_ble_eq_true rfl) d_Strand_enter_1 ⟨Nat.zero_le _, Nat.zero_le _⟩ (fun H locs hP hS => ?_)
  refine lv_if_ne (tgt := 31) hx hb d_Strand_enter_4 (by decide) (fun c105 => ?_) (fun c105 => ?_)
  · rw [if_neg c105] at h
    cases h
    exact r_vret C0 hP hS d_Strand_enter_31
  · rw [if_pos c105] at h
    refine lv_aload_n hx hb d_Strand_enter_7 rfl (lv_at hl 0 rfl) ?_
    obtain ⟨q106, e107, h⟩ := ob h
    refine k_gr C0 F_Strand_11 hP e107 d_Strand_enter_8 ?_
    refine lv_aload_n hx hb d_Strand_enter_11 rfl (lv_at hl 0 rfl) ?_
    obtain ⟨x108, e109, h⟩ := ob h
    refine k_gi C0 F_Strand_17 ik_7_2 hP e109 d_Strand_enter_12 ?_
    obtain ⟨q110, e111, h⟩ := ob h
    refine k_ar C0 hP e111 d_Strand_enter_15 ?_
    refine lv_iload_n hx hb d_Strand_enter_16 rfl (lv_at hl 1 rfl) ?_
    refine lv_iload_n hx hb d_Strand_enter_17 rfl (lv_at hl 2 rfl) ?_
    obtain ⟨_, e112, h⟩ := ob h
    obtain ⟨M113, e114, h⟩ := ob h
    refine k_cVv C0 L_Strand_38 (As := [.int x1, .int x2]) (c_Frame_begin l G q110 x1 x2 e114) ⟨rfl, rfl⟩ ⟨Nat.le_of_ble_eq_true rfl, Nat.le_of_ble_eq_true rfl⟩ hP hS (ck_of e112) ly_Frame rfl hl.1 rfl (Nat.le_of_ble_eq_true rfl) d_Strand_enter_18 ⟨Nat.zero_le _, Nat.zero_le _⟩ (fun H locs hP hS => ?_)
    refine lv_aload_n hx hb d_Strand_enter_21 rfl (lv_at hl 0 rfl) ?_
    refine lv_dup hx hb d_Strand_enter_22 rfl ?_
    obtain ⟨x115, e116, h⟩ := ob h
    refine k_gi C0 F_Strand_17 ik_7_2 hP e116 d_Strand_enter_23 ?_
    refine lv_iconst (v := 1) hx hb d_Strand_enter_26 ic_1 ?_
    refine lv_iadd hx hb d_Strand_enter_27 ?_
    obtain ⟨M117, e118, h⟩ := ob h
    refine k_pi C0 F_Strand_17p ik_7_2 hP hS e118 d_Strand_enter_28 (fun H locs hP hS => ?_)
    cases h
    exact r_vret C0 hP hS d_Strand_enter_31
/-! AllocationProfiler$Strand.leave -/
def rm_Strand_leave : Room := { frames := 0, cells := 0, slots := 0, locals := 0 }
theorem d_Strand_leave_0 : decode b_Strand_leave 0 = .ok (.aload_n 0, 1) := by decide +kernel
theorem d_Strand_leave_1 : decode b_Strand_leave 1 = .ok (.getfield 17, 3) := by decide +kernel
theorem d_Strand_leave_4 : decode b_Strand_leave 4 = .ok (.ifCond .le 13, 3) := by decide +kernel
theorem d_Strand_leave_7 : decode b_Strand_leave 7 = .ok (.aload_n 0, 1) := by decide +kernel
theorem d_Strand_leave_8 : decode b_Strand_leave 8 = .ok (.dup, 1) := by decide +kernel
theorem d_Strand_leave_9 : decode b_Strand_leave 9 = .ok (.getfield 17, 3) := by decide +kernel
theorem d_Strand_leave_12 : decode b_Strand_leave 12 = .ok (.iconst 1, 1) := by decide +kernel
theorem d_Strand_leave_13 : decode b_Strand_leave 13 = .ok (.isub, 1) := by decide +kernel
theorem d_Strand_leave_14 : decode b_Strand_leave 14 = .ok (.putfield 17, 3) := by decide +kernel
theorem d_Strand_leave_17 : decode b_Strand_leave 17 = .ok (.return_, 1) := by decide +kernel
def f_Strand_leave (x0 : Nat) (M : fm_M) : Option fm_M :=
  (gi x0 7 2 M).bind fun x101 =>
  if x101 ≤ 0 then
    some M
  else
    (gi x0 7 2 M).bind fun x104 =>
    (pi x0 7 2 (x104 - 1) M).bind fun M106 =>
    some M106
set_option maxHeartbeats 4000000 in
set_option maxRecDepth 100000 in
theorem c_Strand_leave (l : Launch) (G : fm_G) (x0 : Nat) {M M' : fm_M} (h : f_Strand_leave x0 M = some M') : kMet l y_Strand_leave b_Strand_leave 1 none rm_Strand_leave G M [.ref (G.2.2 + x0)] none M' := by
  refine r_met (by decide) rfl (Nat.le_of_ble_eq_true rfl) (fun p e s m args below meth c C0 hP ls hl => ?_)
  have hx := C0.1
  have hb := C0.2.1
  have hl : lv_has ls 1 [(0, .ref (G.2.2 + x0))] := hl
  have hS : va_S (fm_A G.2.2) s.heap s.heap [] := va_S.rf
  unfold f_Strand_leave at h
  refine lv_aload_n hx hb d_Strand_leave_0 rfl (lv_at hl 0 rfl) ?_
  obtain ⟨x101, e102, h⟩ := ob h
  refine k_gi C0 F_Strand_17 ik_7_2 hP e102 d_Strand_leave_1 ?_
  refine lv_if_le (tgt := 17) hx hb d_Strand_leave_4 (by decide) (fun c103 => ?_) (fun c103 => ?_)
  · rw [if_pos c103] at h
    cases h
    exact r_vret C0 hP hS d_Strand_leave_17
  · rw [if_neg c103] at h
    refine lv_aload_n hx hb d_Strand_leave_7 rfl (lv_at hl 0 rfl) ?_
    refine lv_dup hx hb d_Strand_leave_8 rfl ?_
    obtain ⟨x104, e105, h⟩ := ob h
    refine k_gi C0 F_Strand_17 ik_7_2 hP e105 d_Strand_leave_9 ?_
    refine lv_iconst (v := 1) hx hb d_Strand_leave_12 ic_1 ?_
    refine lv_isub hx hb d_Strand_leave_13 ?_
    obtain ⟨M106, e107, h⟩ := ob h
    refine k_pi C0 F_Strand_17p ik_7_2 hP hS e107 d_Strand_leave_14 (fun H locs hP hS => ?_)
    cases h
    exact r_vret C0 hP hS d_Strand_leave_17
/-! AllocationProfiler$Strand.top -/
def rm_Strand_top : Room := { frames := 0, cells := 0, slots := 0, locals := 0 }
theorem d_Strand_top_0 : decode b_Strand_top 0 = .ok (.aload_n 0, 1) := by decide +kernel
theorem d_Strand_top_1 : decode b_Strand_top 1 = .ok (.getfield 11, 3) := by decide +kernel
theorem d_Strand_top_4 : decode b_Strand_top 4 = .ok (.aload_n 0, 1) := by decide +kernel
theorem d_Strand_top_5 : decode b_Strand_top 5 = .ok (.getfield 17, 3) := by decide +kernel
theorem d_Strand_top_8 : decode b_Strand_top 8 = .ok (.ifCond .le 12, 3) := by decide +kernel
theorem d_Strand_top_11 : decode b_Strand_top 11 = .ok (.aload_n 0, 1) := by decide +kernel
theorem d_Strand_top_12 : decode b_Strand_top 12 = .ok (.getfield 17, 3) := by decide +kernel
theorem d_Strand_top_15 : decode b_Strand_top 15 = .ok (.iconst 1, 1) := by decide +kernel
theorem d_Strand_top_16 : decode b_Strand_top 16 = .ok (.isub, 1) := by decide +kernel
theorem d_Strand_top_17 : decode b_Strand_top 17 = .ok (.goto 4, 3) := by decide +kernel
theorem d_Strand_top_20 : decode b_Strand_top 20 = .ok (.iconst 0, 1) := by decide +kernel
theorem d_Strand_top_21 : decode b_Strand_top 21 = .ok (.aaload, 1) := by decide +kernel
theorem d_Strand_top_22 : decode b_Strand_top 22 = .ok (.areturn, 1) := by decide +kernel
def f_Strand_top (x0 : Nat) (M : fm_M) : Option (Nat × fm_M) :=
  (gr x0 7 0).bind fun q101 =>
  (gi x0 7 2 M).bind fun x103 =>
  if x103 ≤ 0 then
    (ar q101 0).bind fun q106 =>
    some (q106, M)
  else
    (gi x0 7 2 M).bind fun x108 =>
    (ar q101 (x108 - 1)).bind fun q110 =>
    some (q110, M)
set_option maxHeartbeats 4000000 in
set_option maxRecDepth 100000 in
theorem c_Strand_top (l : Launch) (G : fm_G) (x0 : Nat) {v : Nat} {M M' : fm_M} (h : f_Strand_top x0 M = some (v, M')) : kMet l y_Strand_top b_Strand_top 1 (some (.object "AllocationProfiler$Frame")) rm_Strand_top G M [.ref (G.2.2 + x0)] (some (.ref (G.2.2 + v))) M' := by
  refine r_met (by decide) rfl (Nat.le_of_ble_eq_true rfl) (fun p e s m args below meth c C0 hP ls hl => ?_)
  have hx := C0.1
  have hb := C0.2.1
  have hl : lv_has ls 1 [(0, .ref (G.2.2 + x0))] := hl
  have hS : va_S (fm_A G.2.2) s.heap s.heap [] := va_S.rf
  unfold f_Strand_top at h
  refine lv_aload_n hx hb d_Strand_top_0 rfl (lv_at hl 0 rfl) ?_
  obtain ⟨q101, e102, h⟩ := ob h
  refine k_gr C0 F_Strand_11 hP e102 d_Strand_top_1 ?_
  refine lv_aload_n hx hb d_Strand_top_4 rfl (lv_at hl 0 rfl) ?_
  obtain ⟨x103, e104, h⟩ := ob h
  refine k_gi C0 F_Strand_17 ik_7_2 hP e104 d_Strand_top_5 ?_
  refine lv_if_le (tgt := 20) hx hb d_Strand_top_8 (by decide) (fun c105 => ?_) (fun c105 => ?_)
  · rw [if_pos c105] at h
    refine lv_iconst (v := 0) hx hb d_Strand_top_20 ic_0 ?_
    obtain ⟨q106, e107, h⟩ := ob h
    refine k_ar C0 hP e107 d_Strand_top_21 ?_
    cases h
    exact r_aret C0 hP hS d_Strand_top_22
  · rw [if_neg c105] at h
    refine lv_aload_n hx hb d_Strand_top_11 rfl (lv_at hl 0 rfl) ?_
    obtain ⟨x108, e109, h⟩ := ob h
    refine k_gi C0 F_Strand_17 ik_7_2 hP e109 d_Strand_top_12 ?_
    refine lv_iconst (v := 1) hx hb d_Strand_top_15 ic_1 ?_
    refine lv_isub hx hb d_Strand_top_16 ?_
    refine lv_goto (tgt := 21) hx hb d_Strand_top_17 (by decide) ?_
    obtain ⟨q110, e111, h⟩ := ob h
    refine k_ar C0 hP e111 d_Strand_top_21 ?_
    cases h
    exact r_aret C0 hP hS d_Strand_top_22
/-! AllocationProfiler$Strand.end -/
def rm_Strand_end : Room := { frames := 0, cells := 0, slots := 0, locals := 0 }
theorem d_Strand_end_0 : decode b_Strand_end 0 = .ok (.aload_n 0, 1) := by decide +kernel
theorem d_Strand_end_1 : decode b_Strand_end 1 = .ok (.iload_n 1, 1) := by decide +kernel
theorem d_Strand_end_2 : decode b_Strand_end 2 = .ok (.putfield 21, 3) := by decide +kernel
theorem d_Strand_end_5 : decode b_Strand_end 5 = .ok (.aload_n 0, 1) := by decide +kernel
theorem d_Strand_end_6 : decode b_Strand_end 6 = .ok (.iload_n 2, 1) := by decide +kernel
theorem d_Strand_end_7 : decode b_Strand_end 7 = .ok (.putfield 24, 3) := by decide +kernel
theorem d_Strand_end_10 : decode b_Strand_end 10 = .ok (.return_, 1) := by decide +kernel
def f_Strand_end (x0 : Nat) (x1 : Int32) (x2 : Int32) (M : fm_M) : Option fm_M :=
  (pi x0 7 3 x1 M).bind fun M101 =>
  (pi x0 7 4 x2 M101).bind fun M103 =>
  some M103
set_option maxHeartbeats 4000000 in
set_option maxRecDepth 100000 in
theorem c_Strand_end (l : Launch) (G : fm_G) (x0 : Nat) (x1 : Int32) (x2 : Int32) {M M' : fm_M} (h : f_Strand_end x0 x1 x2 M = some M') : kMet l y_Strand_end b_Strand_end 3 none rm_Strand_end G M [.ref (G.2.2 + x0), .int x1, .int x2] none M' := by
  refine r_met (by decide) rfl (Nat.le_of_ble_eq_true rfl) (fun p e s m args below meth c C0 hP ls hl => ?_)
  have hx := C0.1
  have hb := C0.2.1
  have hl : lv_has ls 3 [(0, .ref (G.2.2 + x0)), (1, .int x1), (2, .int x2)] := hl
  have hS : va_S (fm_A G.2.2) s.heap s.heap [] := va_S.rf
  unfold f_Strand_end at h
  refine lv_aload_n hx hb d_Strand_end_0 rfl (lv_at hl 0 rfl) ?_
  refine lv_iload_n hx hb d_Strand_end_1 rfl (lv_at hl 1 rfl) ?_
  obtain ⟨M101, e102, h⟩ := ob h
  refine k_pi C0 F_Strand_21p ik_7_3 hP hS e102 d_Strand_end_2 (fun H locs hP hS => ?_)
  refine lv_aload_n hx hb d_Strand_end_5 rfl (lv_at hl 0 rfl) ?_
  refine lv_iload_n hx hb d_Strand_end_6 rfl (lv_at hl 2 rfl) ?_
  obtain ⟨M103, e104, h⟩ := ob h
  refine k_pi C0 F_Strand_24p ik_7_4 hP hS e104 d_Strand_end_7 (fun H locs hP hS => ?_)
  cases h
  exact r_vret C0 hP hS d_Strand_end_10
/-! AllocationProfiler$Strand.stackNumber -/
def rm_Strand_stackNumber : Room := { frames := 0, cells := 0, slots := 0, locals := 0 }
theorem d_Strand_stackNumber_0 : decode b_Strand_stackNumber 0 = .ok (.iconst 0, 1) := by decide +kernel
theorem d_Strand_stackNumber_1 : decode b_Strand_stackNumber 1 = .ok (.istore_n 1, 1) := by decide +kernel
theorem d_Strand_stackNumber_2 : decode b_Strand_stackNumber 2 = .ok (.iconst 0, 1) := by decide +kernel
theorem d_Strand_stackNumber_3 : decode b_Strand_stackNumber 3 = .ok (.istore_n 2, 1) := by decide +kernel
theorem d_Strand_stackNumber_4 : decode b_Strand_stackNumber 4 = .ok (.iload_n 2, 1) := by decide +kernel
theorem d_Strand_stackNumber_5 : decode b_Strand_stackNumber 5 = .ok (.aload_n 0, 1) := by decide +kernel
theorem d_Strand_stackNumber_6 : decode b_Strand_stackNumber 6 = .ok (.getfield 17, 3) := by decide +kernel
theorem d_Strand_stackNumber_9 : decode b_Strand_stackNumber 9 = .ok (.if_icmp .ge 30, 3) := by decide +kernel
theorem d_Strand_stackNumber_12 : decode b_Strand_stackNumber 12 = .ok (.iload_n 1, 1) := by decide +kernel
theorem d_Strand_stackNumber_13 : decode b_Strand_stackNumber 13 = .ok (.bipush 8, 2) := by decide +kernel
theorem d_Strand_stackNumber_15 : decode b_Strand_stackNumber 15 = .ok (.imul, 1) := by decide +kernel
theorem d_Strand_stackNumber_16 : decode b_Strand_stackNumber 16 = .ok (.aload_n 0, 1) := by decide +kernel
theorem d_Strand_stackNumber_17 : decode b_Strand_stackNumber 17 = .ok (.getfield 11, 3) := by decide +kernel
theorem d_Strand_stackNumber_20 : decode b_Strand_stackNumber 20 = .ok (.iload_n 2, 1) := by decide +kernel
theorem d_Strand_stackNumber_21 : decode b_Strand_stackNumber 21 = .ok (.aaload, 1) := by decide +kernel
theorem d_Strand_stackNumber_22 : decode b_Strand_stackNumber 22 = .ok (.getfield 42, 3) := by decide +kernel
theorem d_Strand_stackNumber_25 : decode b_Strand_stackNumber 25 = .ok (.iadd, 1) := by decide +kernel
theorem d_Strand_stackNumber_26 : decode b_Strand_stackNumber 26 = .ok (.iconst 1, 1) := by decide +kernel
theorem d_Strand_stackNumber_27 : decode b_Strand_stackNumber 27 = .ok (.iadd, 1) := by decide +kernel
theorem d_Strand_stackNumber_28 : decode b_Strand_stackNumber 28 = .ok (.sipush 4095, 3) := by decide +kernel
theorem d_Strand_stackNumber_31 : decode b_Strand_stackNumber 31 = .ok (.iand, 1) := by decide +kernel
theorem d_Strand_stackNumber_32 : decode b_Strand_stackNumber 32 = .ok (.istore_n 1, 1) := by decide +kernel
theorem d_Strand_stackNumber_33 : decode b_Strand_stackNumber 33 = .ok (.iinc 2 1, 3) := by decide +kernel
theorem d_Strand_stackNumber_36 : decode b_Strand_stackNumber 36 = .ok (.goto (-32), 3) := by decide +kernel
theorem d_Strand_stackNumber_39 : decode b_Strand_stackNumber 39 = .ok (.iload_n 1, 1) := by decide +kernel
theorem d_Strand_stackNumber_40 : decode b_Strand_stackNumber 40 = .ok (.ireturn, 1) := by decide +kernel
def h_Strand_stackNumber_4 : Nat → Nat → Int32 → Int32 → fm_M → Option (Int32 × fm_M)
  | 0, _, _, _, _ => none
  | n + 1, x0, x1, x2, M =>
    (gi x0 7 2 M).bind fun x101 =>
    if x101 ≤ x2 then
      some (x1, M)
    else
      (gr x0 7 0).bind fun q104 =>
      (ar q104 x2).bind fun q106 =>
      (gi q106 2 2 M).bind fun x108 =>
      h_Strand_stackNumber_4 n x0 ((((x1 * 8) + x108) + 1) &&& 4095) (x2 + 1) M
def f_Strand_stackNumber (x0 : Nat) (M : fm_M) : Option (Int32 × fm_M) :=
  h_Strand_stackNumber_4 100000 x0 0 0 M
set_option maxHeartbeats 4000000 in
set_option maxRecDepth 100000 in
theorem w_Strand_stackNumber_4 {p : Program} {l : Launch} {e : Env} {s : State} {m : MethodId} {args : Array Value} {below : List Frame} {meth : Method} {c : Code} {G : fm_G} (C0 : fm_C p s m args meth c G (.code y_Strand_stackNumber b_Strand_stackNumber 3 (some .int)) "AllocationProfiler$Strand" b_Strand_stackNumber 3 (some .int)) {v : Int32} {M' : fm_M} : ∀ (n : Nat) (x0 : Nat) (x1 : Int32) (x2 : Int32) {M : fm_M} {H : Heap} {locs : List Loc}, kP G M H → kS G s H locs → ∀ {ls : Array Slot}, lv_has ls 3 [(0, .ref (G.2.2 + x0)), (1, .int x1), (2, .int x2)] → h_Strand_stackNumber_4 n x0 x1 x2 M = some (v, M') → W p l e rm_Strand_stackNumber s m args below meth c H locs 0 0 (MQ below (fm_Q G 212 shF (some (.int v)) M') args s 0 0 (fm_A G.2.2)) (F0 m 4 ls []) := by
  have hx := C0.1
  have hb := C0.2.1
  intro n
  induction n with
  | zero =>
    intro x0 x1 x2 M H locs hP hS ls hl h
    exact nomatch h
  | succ n ih =>
    intro x0 x1 x2 M H locs hP hS ls hl h
    have h : ((gi x0 7 2 M).bind fun x101 =>
      if x101 ≤ x2 then
        some (x1, M)
      else
        (gr x0 7 0).bind fun q104 =>
        (ar q104 x2).bind fun q106 =>
        (gi q106 2 2 M).bind fun x108 =>
        h_Strand_stackNumber_4 n x0 ((((x1 * 8) + x108) + 1) &&& 4095) (x2 + 1) M) = some (v, M') := h
    refine lv_iload_n hx hb d_Strand_stackNumber_4 rfl (lv_at hl 2 rfl) ?_
    refine lv_aload_n hx hb d_Strand_stackNumber_5 rfl (lv_at hl 0 rfl) ?_
    obtain ⟨x101, e102, h⟩ := ob h
    refine k_gi C0 F_Strand_17 ik_7_2 hP e102 d_Strand_stackNumber_6 ?_
    refine lv_icmp_ge (tgt := 39) hx hb d_Strand_stackNumber_9 (by decide) (fun c103 => ?_) (fun c103 => ?_)
    · rw [if_pos c103] at h
      refine lv_iload_n hx hb d_Strand_stackNumber_39 rfl (lv_at hl 1 rfl) ?_
      cases h
      exact r_iret C0 hP hS d_Strand_stackNumber_40
    · rw [if_neg c103] at h
      refine lv_iload_n hx hb d_Strand_stackNumber_12 rfl (lv_at hl 1 rfl) ?_
      refine lv_bipush (v := 8) hx hb d_Strand_stackNumber_13 bp_8 ?_
      refine lv_imul hx hb d_Strand_stackNumber_15 ?_
      refine lv_aload_n hx hb d_Strand_stackNumber_16 rfl (lv_at hl 0 rfl) ?_
      obtain ⟨q104, e105, h⟩ := ob h
      refine k_gr C0 F_Strand_11 hP e105 d_Strand_stackNumber_17 ?_
      refine lv_iload_n hx hb d_Strand_stackNumber_20 rfl (lv_at hl 2 rfl) ?_
      obtain ⟨q106, e107, h⟩ := ob h
      refine k_ar C0 hP e107 d_Strand_stackNumber_21 ?_
      obtain ⟨x108, e109, h⟩ := ob h
      refine k_gi C0 F_Strand_42 ik_2_2 hP e109 d_Strand_stackNumber_22 ?_
      refine lv_iadd hx hb d_Strand_stackNumber_25 ?_
      refine lv_iconst (v := 1) hx hb d_Strand_stackNumber_26 ic_1 ?_
      refine lv_iadd hx hb d_Strand_stackNumber_27 ?_
      refine lv_sipush (v := 4095) hx hb d_Strand_stackNumber_28 sp_4095 ?_
      refine lv_iand hx hb d_Strand_stackNumber_31 ?_
      refine lv_istore_n (lv' := [(1, .int ((((x1 * 8) + x108) + 1) &&& 4095)), (0, .ref (G.2.2 + x0)), (2, .int x2)]) hx hb d_Strand_stackNumber_32 rfl hl (by decide) rfl (fun ls hl => ?_)
      refine lv_iinc (v := (x2 + 1)) (lv' := [(2, .int (x2 + 1)), (1, .int ((((x1 * 8) + x108) + 1) &&& 4095)), (0, .ref (G.2.2 + x0))]) hx hb d_Strand_stackNumber_33 hl (k := 2) rfl (congrArg (fun z => x2 + z) ic_1) (by decide) rfl (fun ls hl => ?_)
      refine lv_goto (tgt := 4) hx hb d_Strand_stackNumber_36 (by decide) ?_
      exact ih x0 ((((x1 * 8) + x108) + 1) &&& 4095) (x2 + 1) hP hS (lv_sub hl [2, 1, 0] rfl) h
set_option maxHeartbeats 4000000 in
set_option maxRecDepth 100000 in
theorem c_Strand_stackNumber (l : Launch) (G : fm_G) (x0 : Nat) {v : Int32} {M M' : fm_M} (h : f_Strand_stackNumber x0 M = some (v, M')) : kMet l y_Strand_stackNumber b_Strand_stackNumber 3 (some .int) rm_Strand_stackNumber G M [.ref (G.2.2 + x0)] (some (.int v)) M' := by
  refine r_met (by decide) rfl (Nat.le_of_ble_eq_true rfl) (fun p e s m args below meth c C0 hP ls hl => ?_)
  have hx := C0.1
  have hb := C0.2.1
  have hl : lv_has ls 3 [(0, .ref (G.2.2 + x0))] := hl
  have hS : va_S (fm_A G.2.2) s.heap s.heap [] := va_S.rf
  unfold f_Strand_stackNumber at h
  refine lv_iconst (v := 0) hx hb d_Strand_stackNumber_0 ic_0 ?_
  refine lv_istore_n (lv' := [(1, .int 0), (0, .ref (G.2.2 + x0))]) hx hb d_Strand_stackNumber_1 rfl hl (by decide) rfl (fun ls hl => ?_)
  refine lv_iconst (v := 0) hx hb d_Strand_stackNumber_2 ic_0 ?_
  refine lv_istore_n (lv' := [(2, .int 0), (1, .int 0), (0, .ref (G.2.2 + x0))]) hx hb d_Strand_stackNumber_3 rfl hl (by decide) rfl (fun ls hl => ?_)
  exact w_Strand_stackNumber_4 C0 100000 x0 0 0 hP hS (lv_sub hl [2, 1, 0] rfl) h
/-! AllocationProfiler$Checker.fits -/
def rm_Checker_fits : Room := { frames := 2, cells := 0, slots := 0, locals := 42 }
theorem d_Checker_fits_0 : decode b_Checker_fits 0 = .ok (.aload_n 0, 1) := by decide +kernel
theorem d_Checker_fits_1 : decode b_Checker_fits 1 = .ok (.iload_n 1, 1) := by decide +kernel
theorem d_Checker_fits_2 : decode b_Checker_fits 2 = .ok (.invokevirtual 45, 3) := by decide +kernel
theorem d_Checker_fits_5 : decode b_Checker_fits 5 = .ok (.istore 4, 2) := by decide +kernel
theorem d_Checker_fits_7 : decode b_Checker_fits 7 = .ok (.aload_n 0, 1) := by decide +kernel
theorem d_Checker_fits_8 : decode b_Checker_fits 8 = .ok (.iload_n 1, 1) := by decide +kernel
theorem d_Checker_fits_9 : decode b_Checker_fits 9 = .ok (.invokevirtual 49, 3) := by decide +kernel
theorem d_Checker_fits_12 : decode b_Checker_fits 12 = .ok (.istore 5, 2) := by decide +kernel
theorem d_Checker_fits_14 : decode b_Checker_fits 14 = .ok (.iload 4, 2) := by decide +kernel
theorem d_Checker_fits_16 : decode b_Checker_fits 16 = .ok (.invokestatic 52, 3) := by decide +kernel
theorem d_Checker_fits_19 : decode b_Checker_fits 19 = .ok (.ifCond .eq 10, 3) := by decide +kernel
theorem d_Checker_fits_22 : decode b_Checker_fits 22 = .ok (.aload_n 0, 1) := by decide +kernel
theorem d_Checker_fits_23 : decode b_Checker_fits 23 = .ok (.iload 5, 2) := by decide +kernel
theorem d_Checker_fits_25 : decode b_Checker_fits 25 = .ok (.invokevirtual 56, 3) := by decide +kernel
theorem d_Checker_fits_28 : decode b_Checker_fits 28 = .ok (.ireturn, 1) := by decide +kernel
theorem d_Checker_fits_29 : decode b_Checker_fits 29 = .ok (.iload 4, 2) := by decide +kernel
theorem d_Checker_fits_31 : decode b_Checker_fits 31 = .ok (.tableswitch 101 1 13 #[65, 65, 101, 101, 101, 101, 101, 101, 101, 101, 71, 78, 84], 65) := by decide +kernel
theorem d_Checker_fits_96 : decode b_Checker_fits 96 = .ok (.iload 5, 2) := by decide +kernel
theorem d_Checker_fits_98 : decode b_Checker_fits 98 = .ok (.invokestatic 59, 3) := by decide +kernel
theorem d_Checker_fits_101 : decode b_Checker_fits 101 = .ok (.ireturn, 1) := by decide +kernel
theorem d_Checker_fits_102 : decode b_Checker_fits 102 = .ok (.aload_n 2, 1) := by decide +kernel
theorem d_Checker_fits_103 : decode b_Checker_fits 103 = .ok (.iload 5, 2) := by decide +kernel
theorem d_Checker_fits_105 : decode b_Checker_fits 105 = .ok (.invokevirtual 62, 3) := by decide +kernel
theorem d_Checker_fits_108 : decode b_Checker_fits 108 = .ok (.ireturn, 1) := by decide +kernel
theorem d_Checker_fits_109 : decode b_Checker_fits 109 = .ok (.iload 5, 2) := by decide +kernel
theorem d_Checker_fits_111 : decode b_Checker_fits 111 = .ok (.invokestatic 65, 3) := by decide +kernel
theorem d_Checker_fits_114 : decode b_Checker_fits 114 = .ok (.ireturn, 1) := by decide +kernel
theorem d_Checker_fits_115 : decode b_Checker_fits 115 = .ok (.iload 5, 2) := by decide +kernel
theorem d_Checker_fits_117 : decode b_Checker_fits 117 = .ok (.ifCond .lt 13, 3) := by decide +kernel
theorem d_Checker_fits_120 : decode b_Checker_fits 120 = .ok (.iload 5, 2) := by decide +kernel
theorem d_Checker_fits_122 : decode b_Checker_fits 122 = .ok (.iload_n 3, 1) := by decide +kernel
theorem d_Checker_fits_123 : decode b_Checker_fits 123 = .ok (.if_icmp .gt 7, 3) := by decide +kernel
theorem d_Checker_fits_126 : decode b_Checker_fits 126 = .ok (.iconst 1, 1) := by decide +kernel
theorem d_Checker_fits_127 : decode b_Checker_fits 127 = .ok (.goto 4, 3) := by decide +kernel
theorem d_Checker_fits_130 : decode b_Checker_fits 130 = .ok (.iconst 0, 1) := by decide +kernel
theorem d_Checker_fits_131 : decode b_Checker_fits 131 = .ok (.ireturn, 1) := by decide +kernel
theorem d_Checker_fits_132 : decode b_Checker_fits 132 = .ok (.iconst 1, 1) := by decide +kernel
theorem d_Checker_fits_133 : decode b_Checker_fits 133 = .ok (.ireturn, 1) := by decide +kernel
def f_Checker_fits (x0 : Nat) (x1 : Int32) (x2 : Nat) (x3 : Int32) (M : fm_M) : Option (Int32 × fm_M) :=
  (ck x0 1).bind fun _ =>
  bd (f_Code_operationAt x0 x1 M) fun x104 M102 =>
  (ck x0 1).bind fun _ =>
  bd (f_Code_argumentAt x0 x1 M102) fun x108 M106 =>
  bd (f_AP_branches x104 M106) fun x111 M109 =>
  if x111 = 0 then
    if x104 = 1 then
      bd (f_AP_isLocal x108 M109) fun x116 M114 =>
      (bz x116).bind fun _ =>
      some (x116, M114)
    else
    if x104 = 2 then
      bd (f_AP_isLocal x108 M109) fun x121 M119 =>
      (bz x121).bind fun _ =>
      some (x121, M119)
    else
    if x104 = 3 then
      some (1, M109)
    else
    if x104 = 4 then
      some (1, M109)
    else
    if x104 = 5 then
      some (1, M109)
    else
    if x104 = 6 then
      some (1, M109)
    else
    if x104 = 7 then
      some (1, M109)
    else
    if x104 = 8 then
      some (1, M109)
    else
    if x104 = 9 then
      some (1, M109)
    else
    if x104 = 10 then
      some (1, M109)
    else
    if x104 = 11 then
      (ck x2 8).bind fun _ =>
      bd (f_Types_has x2 x108 M109) fun x135 M133 =>
      (bz x135).bind fun _ =>
      some (x135, M133)
    else
    if x104 = 12 then
      bd (f_AP_isWidth x108 M109) fun x140 M138 =>
      (bz x140).bind fun _ =>
      some (x140, M138)
    else
    if x104 = 13 then
      if x108 < 0 then
        some (0, M109)
      else
        if x3 < x108 then
          some (0, M109)
        else
          some (1, M109)
    else
      some (1, M109)
  else
    (ck x0 1).bind fun _ =>
    bd (f_Code_has x0 x108 M109) fun x148 M146 =>
    (bz x148).bind fun _ =>
    some (x148, M146)
set_option maxHeartbeats 4000000 in
set_option maxRecDepth 100000 in
theorem c_Checker_fits (l : Launch) (G : fm_G) (x0 : Nat) (x1 : Int32) (x2 : Nat) (x3 : Int32) {v : Int32} {M M' : fm_M} (h : f_Checker_fits x0 x1 x2 x3 M = some (v, M')) : kMet l y_Checker_fits b_Checker_fits 6 (some .boolean) rm_Checker_fits G M [.ref (G.2.2 + x0), .int x1, .ref (G.2.2 + x2), .int x3] (some (.int v)) M' := by
  refine r_met (by decide) rfl (Nat.le_of_ble_eq_true rfl) (fun p e s m args below meth c C0 hP ls hl => ?_)
  have hx := C0.1
  have hb := C0.2.1
  have hl : lv_has ls 6 [(0, .ref (G.2.2 + x0)), (1, .int x1), (2, .ref (G.2.2 + x2)), (3, .int x3)] := hl
  have hS : va_S (fm_A G.2.2) s.heap s.heap [] := va_S.rf
  unfold f_Checker_fits at h
  refine lv_aload_n hx hb d_Checker_fits_0 rfl (lv_at hl 0 rfl) ?_
  refine lv_iload_n hx hb d_Checker_fits_1 rfl (lv_at hl 1 rfl) ?_
  obtain ⟨_, e101, h⟩ := ob h
  obtain ⟨x104, M102, e103, h⟩ := ob2 h
  refine k_cV C0 L_Checker_45 (As := [.int x1]) (c_Code_operationAt l G x0 x1 e103) ⟨rfl, rfl⟩ ⟨Nat.le_of_ble_eq_true rfl, Nat.le_of_ble_eq_true rfl⟩ hP hS (ck_of e101) ly_Code rfl hl.1 rfl (Nat.le_of_ble_eq_true rfl) d_Checker_fits_2 ⟨Nat.zero_le _, Nat.zero_le _⟩ (fun H locs hP hS => ?_)
  refine lv_istore (lv' := [(4, .int x104), (0, .ref (G.2.2 + x0)), (1, .int x1), (2, .ref (G.2.2 + x2)), (3, .int x3)]) hx hb d_Checker_fits_5 hl (by decide) rfl (fun ls hl => ?_)
  refine lv_aload_n hx hb d_Checker_fits_7 rfl (lv_at hl 1 rfl) ?_
  refine lv_iload_n hx hb d_Checker_fits_8 rfl (lv_at hl 2 rfl) ?_
  obtain ⟨_, e105, h⟩ := ob h
  obtain ⟨x108, M106, e107, h⟩ := ob2 h
  refine k_cV C0 L_Checker_49 (As := [.int x1]) (c_Code_argumentAt l G x0 x1 e107) ⟨rfl, rfl⟩ ⟨Nat.le_of_ble_eq_true rfl, Nat.le_of_ble_eq_true rfl⟩ hP hS (ck_of e105) ly_Code rfl hl.1 rfl (Nat.le_of_ble_eq_true rfl) d_Checker_fits_9 ⟨Nat.zero_le _, Nat.zero_le _⟩ (fun H locs hP hS => ?_)
  refine lv_istore (lv' := [(5, .int x108), (4, .int x104), (0, .ref (G.2.2 + x0)), (1, .int x1), (2, .ref (G.2.2 + x2)), (3, .int x3)]) hx hb d_Checker_fits_12 hl (by decide) rfl (fun ls hl => ?_)
  refine lv_iload hx hb d_Checker_fits_14 (lv_at hl 1 rfl) ?_
  obtain ⟨x111, M109, e110, h⟩ := ob2 h
  refine k_cSN C0 L_Checker_52 (As := [.int x104]) (c_AP_branches l G x104 e110) ⟨rfl, rfl⟩ ⟨Nat.le_of_ble_eq_true rfl, Nat.le_of_ble_eq_true rfl⟩ hP hS rfl hl.1 rfl (Nat.le_of_ble_eq_true rfl) d_Checker_fits_16 ⟨Nat.zero_le _, Nat.zero_le _⟩ (fun H locs hP hS => ?_)
  refine lv_if_eq (tgt := 29) hx hb d_Checker_fits_19 (by decide) (fun c112 => ?_) (fun c112 => ?_)
  · rw [if_pos c112] at h
    refine lv_iload hx hb d_Checker_fits_29 (lv_at hl 1 rfl) ?_
    by_cases c113 : x104 = 1
    · rw [if_pos c113] at h
      rw [c113]
      refine lv_tableIn hx hb d_Checker_fits_31 (by decide) (by decide) (ho := rfl) (tgt := 96) (by decide) ?_
      refine lv_iload hx hb d_Checker_fits_96 (lv_at hl 0 rfl) ?_
      obtain ⟨x116, M114, e115, h⟩ := ob2 h
      refine k_cSN C0 L_Checker_59 (As := [.int x108]) (c_AP_isLocal l G x108 e115) ⟨rfl, rfl⟩ ⟨Nat.le_of_ble_eq_true rfl, Nat.le_of_ble_eq_true rfl⟩ hP hS rfl hl.1 rfl (Nat.le_of_ble_eq_true rfl) d_Checker_fits_98 ⟨Nat.zero_le _, Nat.zero_le _⟩ (fun H locs hP hS => ?_)
      obtain ⟨_, e117, h⟩ := ob h
      cases h
      exact r_zret C0 hP hS (bz_of e117) d_Checker_fits_101
    rw [if_neg c113] at h
    by_cases c118 : x104 = 2
    · rw [if_pos c118] at h
      rw [c118]
      refine lv_tableIn hx hb d_Checker_fits_31 (by decide) (by decide) (ho := rfl) (tgt := 96) (by decide) ?_
      refine lv_iload hx hb d_Checker_fits_96 (lv_at hl 0 rfl) ?_
      obtain ⟨x121, M119, e120, h⟩ := ob2 h
      refine k_cSN C0 L_Checker_59 (As := [.int x108]) (c_AP_isLocal l G x108 e120) ⟨rfl, rfl⟩ ⟨Nat.le_of_ble_eq_true rfl, Nat.le_of_ble_eq_true rfl⟩ hP hS rfl hl.1 rfl (Nat.le_of_ble_eq_true rfl) d_Checker_fits_98 ⟨Nat.zero_le _, Nat.zero_le _⟩ (fun H locs hP hS => ?_)
      obtain ⟨_, e122, h⟩ := ob h
      cases h
      exact r_zret C0 hP hS (bz_of e122) d_Checker_fits_101
    rw [if_neg c118] at h
    by_cases c123 : x104 = 3
    · rw [if_pos c123] at h
      rw [c123]
      refine lv_tableIn hx hb d_Checker_fits_31 (by decide) (by decide) (ho := rfl) (tgt := 132) (by decide) ?_
      refine lv_iconst (v := 1) hx hb d_Checker_fits_132 ic_1 ?_
      cases h
      exact r_zret C0 hP hS (Or.inr rfl) d_Checker_fits_133
    rw [if_neg c123] at h
    by_cases c124 : x104 = 4
    · rw [if_pos c124] at h
      rw [c124]
      refine lv_tableIn hx hb d_Checker_fits_31 (by decide) (by decide) (ho := rfl) (tgt := 132) (by decide) ?_
      refine lv_iconst (v := 1) hx hb d_Checker_fits_132 ic_1 ?_
      cases h
      exact r_zret C0 hP hS (Or.inr rfl) d_Checker_fits_133
    rw [if_neg c124] at h
    by_cases c125 : x104 = 5
    · rw [if_pos c125] at h
      rw [c125]
      refine lv_tableIn hx hb d_Checker_fits_31 (by decide) (by decide) (ho := rfl) (tgt := 132) (by decide) ?_
      refine lv_iconst (v := 1) hx hb d_Checker_fits_132 ic_1 ?_
      cases h
      exact r_zret C0 hP hS (Or.inr rfl) d_Checker_fits_133
    rw [if_neg c125] at h
    by_cases c126 : x104 = 6
    · rw [if_pos c126] at h
      rw [c126]
      refine lv_tableIn hx hb d_Checker_fits_31 (by decide) (by decide) (ho := rfl) (tgt := 132) (by decide) ?_
      refine lv_iconst (v := 1) hx hb d_Checker_fits_132 ic_1 ?_
      cases h
      exact r_zret C0 hP hS (Or.inr rfl) d_Checker_fits_133
    rw [if_neg c126] at h
    by_cases c127 : x104 = 7
    · rw [if_pos c127] at h
      rw [c127]
      refine lv_tableIn hx hb d_Checker_fits_31 (by decide) (by decide) (ho := rfl) (tgt := 132) (by decide) ?_
      refine lv_iconst (v := 1) hx hb d_Checker_fits_132 ic_1 ?_
      cases h
      exact r_zret C0 hP hS (Or.inr rfl) d_Checker_fits_133
    rw [if_neg c127] at h
    by_cases c128 : x104 = 8
    · rw [if_pos c128] at h
      rw [c128]
      refine lv_tableIn hx hb d_Checker_fits_31 (by decide) (by decide) (ho := rfl) (tgt := 132) (by decide) ?_
      refine lv_iconst (v := 1) hx hb d_Checker_fits_132 ic_1 ?_
      cases h
      exact r_zret C0 hP hS (Or.inr rfl) d_Checker_fits_133
    rw [if_neg c128] at h
    by_cases c129 : x104 = 9
    · rw [if_pos c129] at h
      rw [c129]
      refine lv_tableIn hx hb d_Checker_fits_31 (by decide) (by decide) (ho := rfl) (tgt := 132) (by decide) ?_
      refine lv_iconst (v := 1) hx hb d_Checker_fits_132 ic_1 ?_
      cases h
      exact r_zret C0 hP hS (Or.inr rfl) d_Checker_fits_133
    rw [if_neg c129] at h
    by_cases c130 : x104 = 10
    · rw [if_pos c130] at h
      rw [c130]
      refine lv_tableIn hx hb d_Checker_fits_31 (by decide) (by decide) (ho := rfl) (tgt := 132) (by decide) ?_
      refine lv_iconst (v := 1) hx hb d_Checker_fits_132 ic_1 ?_
      cases h
      exact r_zret C0 hP hS (Or.inr rfl) d_Checker_fits_133
    rw [if_neg c130] at h
    by_cases c131 : x104 = 11
    · rw [if_pos c131] at h
      rw [c131]
      refine lv_tableIn hx hb d_Checker_fits_31 (by decide) (by decide) (ho := rfl) (tgt := 102) (by decide) ?_
      refine lv_aload_n hx hb d_Checker_fits_102 rfl (lv_at hl 4 rfl) ?_
      refine lv_iload hx hb d_Checker_fits_103 (lv_at hl 0 rfl) ?_
      obtain ⟨_, e132, h⟩ := ob h
      obtain ⟨x135, M133, e134, h⟩ := ob2 h
      refine k_cV C0 L_Checker_62 (As := [.int x108]) (c_Types_has l G x2 x108 e134) ⟨rfl, rfl⟩ ⟨Nat.le_of_ble_eq_true rfl, Nat.le_of_ble_eq_true rfl⟩ hP hS (ck_of e132) ly_Types rfl hl.1 rfl (Nat.le_of_ble_eq_true rfl) d_Checker_fits_105 ⟨Nat.zero_le _, Nat.zero_le _⟩ (fun H locs hP hS => ?_)
      obtain ⟨_, e136, h⟩ := ob h
      cases h
      exact r_zret C0 hP hS (bz_of e136) d_Checker_fits_108
    rw [if_neg c131] at h
    by_cases c137 : x104 = 12
    · rw [if_pos c137] at h
      rw [c137]
      refine lv_tableIn hx hb d_Checker_fits_31 (by decide) (by decide) (ho := rfl) (tgt := 109) (by decide) ?_
      refine lv_iload hx hb d_Checker_fits_109 (lv_at hl 0 rfl) ?_
      obtain ⟨x140, M138, e139, h⟩ := ob2 h
      refine k_cSN C0 L_Checker_65 (As := [.int x108]) (c_AP_isWidth l G x108 e139) ⟨rfl, rfl⟩ ⟨Nat.le_of_ble_eq_true rfl, Nat.le_of_ble_eq_true rfl⟩ hP hS rfl hl.1 rfl (Nat.le_of_ble_eq_true rfl) d_Checker_fits_111 ⟨Nat.zero_le _, Nat.zero_le _⟩ (fun H locs hP hS => ?_)
      obtain ⟨_, e141, h⟩ := ob h
      cases h
      exact r_zret C0 hP hS (bz_of e141) d_Checker_fits_114
    rw [if_neg c137] at h
    by_cases c142 : x104 = 13
    · rw [if_pos c142] at h
      rw [c142]
      refine lv_tableIn hx hb d_Checker_fits_31 (by decide) (by decide) (ho := rfl) (tgt := 115) (by decide) ?_
      refine lv_iload hx hb d_Checker_fits_115 (lv_at hl 0 rfl) ?_
      refine lv_if_lt (tgt := 130) hx hb d_Checker_fits_117 (by decide) (fun c143 => ?_) (fun c143 => ?_)
      · rw [if_pos c143] at h
        refine lv_iconst (v := 0) hx hb d_Checker_fits_130 ic_0 ?_
        cases h
        exact r_zret C0 hP hS (Or.inl rfl) d_Checker_fits_131
      · rw [if_neg c143] at h
        refine lv_iload hx hb d_Checker_fits_120 (lv_at hl 0 rfl) ?_
        refine lv_iload_n hx hb d_Checker_fits_122 rfl (lv_at hl 5 rfl) ?_
        refine lv_icmp_gt (tgt := 130) hx hb d_Checker_fits_123 (by decide) (fun c144 => ?_) (fun c144 => ?_)
        · rw [if_pos c144] at h
          refine lv_iconst (v := 0) hx hb d_Checker_fits_130 ic_0 ?_
          cases h
          exact r_zret C0 hP hS (Or.inl rfl) d_Checker_fits_131
        · rw [if_neg c144] at h
          refine lv_iconst (v := 1) hx hb d_Checker_fits_126 ic_1 ?_
          refine lv_goto (tgt := 131) hx hb d_Checker_fits_127 (by decide) ?_
          cases h
          exact r_zret C0 hP hS (Or.inr rfl) d_Checker_fits_131
    rw [if_neg c142] at h
    have nc113 := lv_neT c113 ti_1
    have nc118 := lv_neT c118 ti_2
    have nc123 := lv_neT c123 ti_3
    have nc124 := lv_neT c124 ti_4
    have nc125 := lv_neT c125 ti_5
    have nc126 := lv_neT c126 ti_6
    have nc127 := lv_neT c127 ti_7
    have nc128 := lv_neT c128 ti_8
    have nc129 := lv_neT c129 ti_9
    have nc130 := lv_neT c130 ti_10
    have nc131 := lv_neT c131 ti_11
    have nc137 := lv_neT c137 ti_12
    have nc142 := lv_neT c142 ti_13
    refine lv_tableOut hx hb d_Checker_fits_31 (by omega) (tgt := 132) (by decide) ?_
    refine lv_iconst (v := 1) hx hb d_Checker_fits_132 ic_1 ?_
    cases h
    exact r_zret C0 hP hS (Or.inr rfl) d_Checker_fits_133
  · rw [if_neg c112] at h
    refine lv_aload_n hx hb d_Checker_fits_22 rfl (lv_at hl 2 rfl) ?_
    refine lv_iload hx hb d_Checker_fits_23 (lv_at hl 0 rfl) ?_
    obtain ⟨_, e145, h⟩ := ob h
    obtain ⟨x148, M146, e147, h⟩ := ob2 h
    refine k_cV C0 L_Checker_56 (As := [.int x108]) (c_Code_has l G x0 x108 e147) ⟨rfl, rfl⟩ ⟨Nat.le_of_ble_eq_true rfl, Nat.le_of_ble_eq_true rfl⟩ hP hS (ck_of e145) ly_Code rfl hl.1 rfl (Nat.le_of_ble_eq_true rfl) d_Checker_fits_25 ⟨Nat.zero_le _, Nat.zero_le _⟩ (fun H locs hP hS => ?_)
    obtain ⟨_, e149, h⟩ := ob h
    cases h
    exact r_zret C0 hP hS (bz_of e149) d_Checker_fits_28
/-! AllocationProfiler$Checker.wrongArgument -/
def rm_Checker_wrongArgument : Room := { frames := 3, cells := 0, slots := 0, locals := 67 }
theorem d_Checker_wrongArgument_0 : decode b_Checker_wrongArgument 0 = .ok (.aload_n 0, 1) := by decide +kernel
theorem d_Checker_wrongArgument_1 : decode b_Checker_wrongArgument 1 = .ok (.getfield 36, 3) := by decide +kernel
theorem d_Checker_wrongArgument_4 : decode b_Checker_wrongArgument 4 = .ok (.ifCond .ne 5, 3) := by decide +kernel
theorem d_Checker_wrongArgument_7 : decode b_Checker_wrongArgument 7 = .ok (.iconst 0, 1) := by decide +kernel
theorem d_Checker_wrongArgument_8 : decode b_Checker_wrongArgument 8 = .ok (.ireturn, 1) := by decide +kernel
theorem d_Checker_wrongArgument_9 : decode b_Checker_wrongArgument 9 = .ok (.iconst 0, 1) := by decide +kernel
theorem d_Checker_wrongArgument_10 : decode b_Checker_wrongArgument 10 = .ok (.istore_n 3, 1) := by decide +kernel
theorem d_Checker_wrongArgument_11 : decode b_Checker_wrongArgument 11 = .ok (.iload_n 3, 1) := by decide +kernel
theorem d_Checker_wrongArgument_12 : decode b_Checker_wrongArgument 12 = .ok (.aload_n 0, 1) := by decide +kernel
theorem d_Checker_wrongArgument_13 : decode b_Checker_wrongArgument 13 = .ok (.getfield 36, 3) := by decide +kernel
theorem d_Checker_wrongArgument_16 : decode b_Checker_wrongArgument 16 = .ok (.if_icmp .ge 21, 3) := by decide +kernel
theorem d_Checker_wrongArgument_19 : decode b_Checker_wrongArgument 19 = .ok (.aload_n 0, 1) := by decide +kernel
theorem d_Checker_wrongArgument_20 : decode b_Checker_wrongArgument 20 = .ok (.iload_n 3, 1) := by decide +kernel
theorem d_Checker_wrongArgument_21 : decode b_Checker_wrongArgument 21 = .ok (.aload_n 1, 1) := by decide +kernel
theorem d_Checker_wrongArgument_22 : decode b_Checker_wrongArgument 22 = .ok (.iload_n 2, 1) := by decide +kernel
theorem d_Checker_wrongArgument_23 : decode b_Checker_wrongArgument 23 = .ok (.invokestatic 41, 3) := by decide +kernel
theorem d_Checker_wrongArgument_26 : decode b_Checker_wrongArgument 26 = .ok (.ifCond .ne 5, 3) := by decide +kernel
theorem d_Checker_wrongArgument_29 : decode b_Checker_wrongArgument 29 = .ok (.iload_n 3, 1) := by decide +kernel
theorem d_Checker_wrongArgument_30 : decode b_Checker_wrongArgument 30 = .ok (.ireturn, 1) := by decide +kernel
theorem d_Checker_wrongArgument_31 : decode b_Checker_wrongArgument 31 = .ok (.iinc 3 1, 3) := by decide +kernel
theorem d_Checker_wrongArgument_34 : decode b_Checker_wrongArgument 34 = .ok (.goto (-23), 3) := by decide +kernel
theorem d_Checker_wrongArgument_37 : decode b_Checker_wrongArgument 37 = .ok (.iconst (-1), 1) := by decide +kernel
theorem d_Checker_wrongArgument_38 : decode b_Checker_wrongArgument 38 = .ok (.ireturn, 1) := by decide +kernel
def h_Checker_wrongArgument_11 : Nat → Nat → Nat → Int32 → Int32 → fm_M → Option (Int32 × fm_M)
  | 0, _, _, _, _, _ => none
  | n + 1, x0, x1, x2, x3, M =>
    (gi x0 1 5 M).bind fun x101 =>
    if x101 ≤ x3 then
      some ((-1), M)
    else
      bd (f_Checker_fits x0 x3 x1 x2 M) fun x106 M104 =>
      if x106 = 0 then
        some (x3, M104)
      else
        h_Checker_wrongArgument_11 n x0 x1 x2 (x3 + 1) M104
def f_Checker_wrongArgument (x0 : Nat) (x1 : Nat) (x2 : Int32) (M : fm_M) : Option (Int32 × fm_M) :=
  (gi x0 1 5 M).bind fun x108 =>
  if x108 = 0 then
    some (0, M)
  else
    h_Checker_wrongArgument_11 100000 x0 x1 x2 0 M
set_option maxHeartbeats 4000000 in
set_option maxRecDepth 100000 in
theorem w_Checker_wrongArgument_11 {p : Program} {l : Launch} {e : Env} {s : State} {m : MethodId} {args : Array Value} {below : List Frame} {meth : Method} {c : Code} {G : fm_G} (C0 : fm_C p s m args meth c G (.code y_Checker_wrongArgument b_Checker_wrongArgument 4 (some .int)) "AllocationProfiler$Checker" b_Checker_wrongArgument 4 (some .int)) {v : Int32} {M' : fm_M} : ∀ (n : Nat) (x0 : Nat) (x1 : Nat) (x2 : Int32) (x3 : Int32) {M : fm_M} {H : Heap} {locs : List Loc}, kP G M H → kS G s H locs → ∀ {ls : Array Slot}, lv_has ls 4 [(0, .ref (G.2.2 + x0)), (1, .ref (G.2.2 + x1)), (2, .int x2), (3, .int x3)] → h_Checker_wrongArgument_11 n x0 x1 x2 x3 M = some (v, M') → W p l e rm_Checker_wrongArgument s m args below meth c H locs 0 0 (MQ below (fm_Q G 212 shF (some (.int v)) M') args s 0 0 (fm_A G.2.2)) (F0 m 11 ls []) := by
  have hx := C0.1
  have hb := C0.2.1
  intro n
  induction n with
  | zero =>
    intro x0 x1 x2 x3 M H locs hP hS ls hl h
    exact nomatch h
  | succ n ih =>
    intro x0 x1 x2 x3 M H locs hP hS ls hl h
    have h : ((gi x0 1 5 M).bind fun x101 =>
      if x101 ≤ x3 then
        some ((-1), M)
      else
        bd (f_Checker_fits x0 x3 x1 x2 M) fun x106 M104 =>
        if x106 = 0 then
          some (x3, M104)
        else
          h_Checker_wrongArgument_11 n x0 x1 x2 (x3 + 1) M104) = some (v, M') := h
    refine lv_iload_n hx hb d_Checker_wrongArgument_11 rfl (lv_at hl 3 rfl) ?_
    refine lv_aload_n hx hb d_Checker_wrongArgument_12 rfl (lv_at hl 0 rfl) ?_
    obtain ⟨x101, e102, h⟩ := ob h
    refine k_gi C0 F_Checker_36 ik_1_5 hP e102 d_Checker_wrongArgument_13 ?_
    refine lv_icmp_ge (tgt := 37) hx hb d_Checker_wrongArgument_16 (by decide) (fun c103 => ?_) (fun c103 => ?_)
    · rw [if_pos c103] at h
      refine lv_iconst (v := (-1)) hx hb d_Checker_wrongArgument_37 ic_m1 ?_
      cases h
      exact r_iret C0 hP hS d_Checker_wrongArgument_38
    · rw [if_neg c103] at h
      refine lv_aload_n hx hb d_Checker_wrongArgument_19 rfl (lv_at hl 0 rfl) ?_
      refine lv_iload_n hx hb d_Checker_wrongArgument_20 rfl (lv_at hl 3 rfl) ?_
      refine lv_aload_n hx hb d_Checker_wrongArgument_21 rfl (lv_at hl 1 rfl) ?_
      refine lv_iload_n hx hb d_Checker_wrongArgument_22 rfl (lv_at hl 2 rfl) ?_
      obtain ⟨x106, M104, e105, h⟩ := ob2 h
      refine k_cS C0 L_Checker_41 (As := [.ref (G.2.2 + x0), .int x3, .ref (G.2.2 + x1), .int x2]) (c_Checker_fits l G x0 x3 x1 x2 e105) ⟨rfl, rfl⟩ ⟨Nat.le_of_ble_eq_true rfl, Nat.le_of_ble_eq_true rfl⟩ hP hS rfl hl.1 rfl (Nat.le_of_ble_eq_true rfl) d_Checker_wrongArgument_23 ⟨Nat.zero_le _, Nat.zero_le _⟩ (fun H locs hP hS => ?_)
      refine lv_if_ne (tgt := 31) hx hb d_Checker_wrongArgument_26 (by decide) (fun c107 => ?_) (fun c107 => ?_)
      · rw [if_neg c107] at h
        refine lv_iinc (v := (x3 + 1)) (lv' := [(3, .int (x3 + 1)), (0, .ref (G.2.2 + x0)), (1, .ref (G.2.2 + x1)), (2, .int x2)]) hx hb d_Checker_wrongArgument_31 hl (k := 3) rfl (congrArg (fun z => x3 + z) ic_1) (by decide) rfl (fun ls hl => ?_)
        refine lv_goto (tgt := 11) hx hb d_Checker_wrongArgument_34 (by decide) ?_
        exact ih x0 x1 x2 (x3 + 1) hP hS (lv_sub hl [1, 2, 3, 0] rfl) h
      · rw [if_pos c107] at h
        refine lv_iload_n hx hb d_Checker_wrongArgument_29 rfl (lv_at hl 3 rfl) ?_
        cases h
        exact r_iret C0 hP hS d_Checker_wrongArgument_30
set_option maxHeartbeats 4000000 in
set_option maxRecDepth 100000 in
theorem c_Checker_wrongArgument (l : Launch) (G : fm_G) (x0 : Nat) (x1 : Nat) (x2 : Int32) {v : Int32} {M M' : fm_M} (h : f_Checker_wrongArgument x0 x1 x2 M = some (v, M')) : kMet l y_Checker_wrongArgument b_Checker_wrongArgument 4 (some .int) rm_Checker_wrongArgument G M [.ref (G.2.2 + x0), .ref (G.2.2 + x1), .int x2] (some (.int v)) M' := by
  refine r_met (by decide) rfl (Nat.le_of_ble_eq_true rfl) (fun p e s m args below meth c C0 hP ls hl => ?_)
  have hx := C0.1
  have hb := C0.2.1
  have hl : lv_has ls 4 [(0, .ref (G.2.2 + x0)), (1, .ref (G.2.2 + x1)), (2, .int x2)] := hl
  have hS : va_S (fm_A G.2.2) s.heap s.heap [] := va_S.rf
  unfold f_Checker_wrongArgument at h
  refine lv_aload_n hx hb d_Checker_wrongArgument_0 rfl (lv_at hl 0 rfl) ?_
  obtain ⟨x108, e109, h⟩ := ob h
  refine k_gi C0 F_Checker_36 ik_1_5 hP e109 d_Checker_wrongArgument_1 ?_
  refine lv_if_ne (tgt := 9) hx hb d_Checker_wrongArgument_4 (by decide) (fun c110 => ?_) (fun c110 => ?_)
  · rw [if_neg c110] at h
    refine lv_iconst (v := 0) hx hb d_Checker_wrongArgument_9 ic_0 ?_
    refine lv_istore_n (lv' := [(3, .int 0), (0, .ref (G.2.2 + x0)), (1, .ref (G.2.2 + x1)), (2, .int x2)]) hx hb d_Checker_wrongArgument_10 rfl hl (by decide) rfl (fun ls hl => ?_)
    exact w_Checker_wrongArgument_11 C0 100000 x0 x1 x2 0 hP hS (lv_sub hl [1, 2, 3, 0] rfl) h
  · rw [if_pos c110] at h
    refine lv_iconst (v := 0) hx hb d_Checker_wrongArgument_7 ic_0 ?_
    cases h
    exact r_iret C0 hP hS d_Checker_wrongArgument_8
/-! AllocationProfiler$Checker.openEnd -/
def rm_Checker_openEnd : Room := { frames := 2, cells := 0, slots := 0, locals := 42 }
theorem d_Checker_openEnd_0 : decode b_Checker_openEnd 0 = .ok (.aload_n 0, 1) := by decide +kernel
theorem d_Checker_openEnd_1 : decode b_Checker_openEnd 1 = .ok (.getfield 36, 3) := by decide +kernel
theorem d_Checker_openEnd_4 : decode b_Checker_openEnd 4 = .ok (.iconst 1, 1) := by decide +kernel
theorem d_Checker_openEnd_5 : decode b_Checker_openEnd 5 = .ok (.isub, 1) := by decide +kernel
theorem d_Checker_openEnd_6 : decode b_Checker_openEnd 6 = .ok (.istore_n 1, 1) := by decide +kernel
theorem d_Checker_openEnd_7 : decode b_Checker_openEnd 7 = .ok (.aload_n 0, 1) := by decide +kernel
theorem d_Checker_openEnd_8 : decode b_Checker_openEnd 8 = .ok (.iload_n 1, 1) := by decide +kernel
theorem d_Checker_openEnd_9 : decode b_Checker_openEnd 9 = .ok (.invokevirtual 45, 3) := by decide +kernel
theorem d_Checker_openEnd_12 : decode b_Checker_openEnd 12 = .ok (.invokestatic 68, 3) := by decide +kernel
theorem d_Checker_openEnd_15 : decode b_Checker_openEnd 15 = .ok (.ifCond .eq 7, 3) := by decide +kernel
theorem d_Checker_openEnd_18 : decode b_Checker_openEnd 18 = .ok (.iconst (-1), 1) := by decide +kernel
theorem d_Checker_openEnd_19 : decode b_Checker_openEnd 19 = .ok (.goto 4, 3) := by decide +kernel
theorem d_Checker_openEnd_22 : decode b_Checker_openEnd 22 = .ok (.iload_n 1, 1) := by decide +kernel
theorem d_Checker_openEnd_23 : decode b_Checker_openEnd 23 = .ok (.ireturn, 1) := by decide +kernel
def f_Checker_openEnd (x0 : Nat) (M : fm_M) : Option (Int32 × fm_M) :=
  (gi x0 1 5 M).bind fun x101 =>
  (ck x0 1).bind fun _ =>
  bd (f_Code_operationAt x0 (x101 - 1) M) fun x106 M104 =>
  bd (f_AP_closes x106 M104) fun x109 M107 =>
  if x109 = 0 then
    some ((x101 - 1), M107)
  else
    some ((-1), M107)
set_option maxHeartbeats 4000000 in
set_option maxRecDepth 100000 in
theorem c_Checker_openEnd (l : Launch) (G : fm_G) (x0 : Nat) {v : Int32} {M M' : fm_M} (h : f_Checker_openEnd x0 M = some (v, M')) : kMet l y_Checker_openEnd b_Checker_openEnd 2 (some .int) rm_Checker_openEnd G M [.ref (G.2.2 + x0)] (some (.int v)) M' := by
  refine r_met (by decide) rfl (Nat.le_of_ble_eq_true rfl) (fun p e s m args below meth c C0 hP ls hl => ?_)
  have hx := C0.1
  have hb := C0.2.1
  have hl : lv_has ls 2 [(0, .ref (G.2.2 + x0))] := hl
  have hS : va_S (fm_A G.2.2) s.heap s.heap [] := va_S.rf
  unfold f_Checker_openEnd at h
  refine lv_aload_n hx hb d_Checker_openEnd_0 rfl (lv_at hl 0 rfl) ?_
  obtain ⟨x101, e102, h⟩ := ob h
  refine k_gi C0 F_Checker_36 ik_1_5 hP e102 d_Checker_openEnd_1 ?_
  refine lv_iconst (v := 1) hx hb d_Checker_openEnd_4 ic_1 ?_
  refine lv_isub hx hb d_Checker_openEnd_5 ?_
  refine lv_istore_n (lv' := [(1, .int (x101 - 1)), (0, .ref (G.2.2 + x0))]) hx hb d_Checker_openEnd_6 rfl hl (by decide) rfl (fun ls hl => ?_)
  refine lv_aload_n hx hb d_Checker_openEnd_7 rfl (lv_at hl 1 rfl) ?_
  refine lv_iload_n hx hb d_Checker_openEnd_8 rfl (lv_at hl 0 rfl) ?_
  obtain ⟨_, e103, h⟩ := ob h
  obtain ⟨x106, M104, e105, h⟩ := ob2 h
  refine k_cV C0 L_Checker_45 (As := [.int (x101 - 1)]) (c_Code_operationAt l G x0 (x101 - 1) e105) ⟨rfl, rfl⟩ ⟨Nat.le_of_ble_eq_true rfl, Nat.le_of_ble_eq_true rfl⟩ hP hS (ck_of e103) ly_Code rfl hl.1 rfl (Nat.le_of_ble_eq_true rfl) d_Checker_openEnd_9 ⟨Nat.zero_le _, Nat.zero_le _⟩ (fun H locs hP hS => ?_)
  obtain ⟨x109, M107, e108, h⟩ := ob2 h
  refine k_cSN C0 L_Checker_68 (As := [.int x106]) (c_AP_closes l G x106 e108) ⟨rfl, rfl⟩ ⟨Nat.le_of_ble_eq_true rfl, Nat.le_of_ble_eq_true rfl⟩ hP hS rfl hl.1 rfl (Nat.le_of_ble_eq_true rfl) d_Checker_openEnd_12 ⟨Nat.zero_le _, Nat.zero_le _⟩ (fun H locs hP hS => ?_)
  refine lv_if_eq (tgt := 22) hx hb d_Checker_openEnd_15 (by decide) (fun c110 => ?_) (fun c110 => ?_)
  · rw [if_pos c110] at h
    refine lv_iload_n hx hb d_Checker_openEnd_22 rfl (lv_at hl 0 rfl) ?_
    cases h
    exact r_iret C0 hP hS d_Checker_openEnd_23
  · rw [if_neg c110] at h
    refine lv_iconst (v := (-1)) hx hb d_Checker_openEnd_18 ic_m1 ?_
    refine lv_goto (tgt := 23) hx hb d_Checker_openEnd_19 (by decide) ?_
    cases h
    exact r_iret C0 hP hS d_Checker_openEnd_23
