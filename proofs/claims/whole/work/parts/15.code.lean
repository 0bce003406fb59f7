/-! AllocationProfilerModel.range -/
def rm_Mo_range : Room := { frames := 0, cells := 0, slots := 0, locals := 0 }
theorem d_Mo_range_0 : decode b_Mo_range 0 = .ok (.aload_n 0, 1) := by decide +kernel
theorem d_Mo_range_1 : decode b_Mo_range 1 = .ok (.aload_n 0, 1) := by decide +kernel
theorem d_Mo_range_2 : decode b_Mo_range 2 = .ok (.getfield 147, 3) := by decide +kernel
theorem d_Mo_range_5 : decode b_Mo_range 5 = .ok (.iconst 2, 1) := by decide +kernel
theorem d_Mo_range_6 : decode b_Mo_range 6 = .ok (.if_icmp .ne 7, 3) := by decide +kernel
theorem d_Mo_range_9 : decode b_Mo_range 9 = .ok (.iconst 1, 1) := by decide +kernel
theorem d_Mo_range_10 : decode b_Mo_range 10 = .ok (.goto 4, 3) := by decide +kernel
theorem d_Mo_range_13 : decode b_Mo_range 13 = .ok (.iconst 0, 1) := by decide +kernel
theorem d_Mo_range_14 : decode b_Mo_range 14 = .ok (.putfield 122, 3) := by decide +kernel
theorem d_Mo_range_17 : decode b_Mo_range 17 = .ok (.aload_n 0, 1) := by decide +kernel
theorem d_Mo_range_18 : decode b_Mo_range 18 = .ok (.getfield 122, 3) := by decide +kernel
theorem d_Mo_range_21 : decode b_Mo_range 21 = .ok (.ifCond .le 5, 3) := by decide +kernel
theorem d_Mo_range_24 : decode b_Mo_range 24 = .ok (.iconst 0, 1) := by decide +kernel
theorem d_Mo_range_25 : decode b_Mo_range 25 = .ok (.ireturn, 1) := by decide +kernel
theorem d_Mo_range_26 : decode b_Mo_range 26 = .ok (.aload_n 0, 1) := by decide +kernel
theorem d_Mo_range_27 : decode b_Mo_range 27 = .ok (.getfield 22, 3) := by decide +kernel
theorem d_Mo_range_30 : decode b_Mo_range 30 = .ok (.iconst 3, 1) := by decide +kernel
theorem d_Mo_range_31 : decode b_Mo_range 31 = .ok (.aload_n 0, 1) := by decide +kernel
theorem d_Mo_range_32 : decode b_Mo_range 32 = .ok (.getfield 147, 3) := by decide +kernel
theorem d_Mo_range_35 : decode b_Mo_range 35 = .ok (.imul, 1) := by decide +kernel
theorem d_Mo_range_36 : decode b_Mo_range 36 = .ok (.iload_n 1, 1) := by decide +kernel
theorem d_Mo_range_37 : decode b_Mo_range 37 = .ok (.iastore, 1) := by decide +kernel
theorem d_Mo_range_38 : decode b_Mo_range 38 = .ok (.aload_n 0, 1) := by decide +kernel
theorem d_Mo_range_39 : decode b_Mo_range 39 = .ok (.getfield 22, 3) := by decide +kernel
theorem d_Mo_range_42 : decode b_Mo_range 42 = .ok (.iconst 3, 1) := by decide +kernel
theorem d_Mo_range_43 : decode b_Mo_range 43 = .ok (.aload_n 0, 1) := by decide +kernel
theorem d_Mo_range_44 : decode b_Mo_range 44 = .ok (.getfield 147, 3) := by decide +kernel
theorem d_Mo_range_47 : decode b_Mo_range 47 = .ok (.imul, 1) := by decide +kernel
theorem d_Mo_range_48 : decode b_Mo_range 48 = .ok (.iconst 1, 1) := by decide +kernel
theorem d_Mo_range_49 : decode b_Mo_range 49 = .ok (.iadd, 1) := by decide +kernel
theorem d_Mo_range_50 : decode b_Mo_range 50 = .ok (.iload_n 2, 1) := by decide +kernel
theorem d_Mo_range_51 : decode b_Mo_range 51 = .ok (.iastore, 1) := by decide +kernel
theorem d_Mo_range_52 : decode b_Mo_range 52 = .ok (.aload_n 0, 1) := by decide +kernel
theorem d_Mo_range_53 : decode b_Mo_range 53 = .ok (.getfield 22, 3) := by decide +kernel
theorem d_Mo_range_56 : decode b_Mo_range 56 = .ok (.iconst 3, 1) := by decide +kernel
theorem d_Mo_range_57 : decode b_Mo_range 57 = .ok (.aload_n 0, 1) := by decide +kernel
theorem d_Mo_range_58 : decode b_Mo_range 58 = .ok (.getfield 147, 3) := by decide +kernel
theorem d_Mo_range_61 : decode b_Mo_range 61 = .ok (.imul, 1) := by decide +kernel
theorem d_Mo_range_62 : decode b_Mo_range 62 = .ok (.iconst 2, 1) := by decide +kernel
theorem d_Mo_range_63 : decode b_Mo_range 63 = .ok (.iadd, 1) := by decide +kernel
theorem d_Mo_range_64 : decode b_Mo_range 64 = .ok (.iload_n 3, 1) := by decide +kernel
theorem d_Mo_range_65 : decode b_Mo_range 65 = .ok (.iastore, 1) := by decide +kernel
theorem d_Mo_range_66 : decode b_Mo_range 66 = .ok (.aload_n 0, 1) := by decide +kernel
theorem d_Mo_range_67 : decode b_Mo_range 67 = .ok (.dup, 1) := by decide +kernel
theorem d_Mo_range_68 : decode b_Mo_range 68 = .ok (.getfield 147, 3) := by decide +kernel
theorem d_Mo_range_71 : decode b_Mo_range 71 = .ok (.iconst 1, 1) := by decide +kernel
theorem d_Mo_range_72 : decode b_Mo_range 72 = .ok (.iadd, 1) := by decide +kernel
theorem d_Mo_range_73 : decode b_Mo_range 73 = .ok (.putfield 147, 3) := by decide +kernel
theorem d_Mo_range_76 : decode b_Mo_range 76 = .ok (.aload_n 0, 1) := by decide +kernel
theorem d_Mo_range_77 : decode b_Mo_range 77 = .ok (.getfield 147, 3) := by decide +kernel
theorem d_Mo_range_80 : decode b_Mo_range 80 = .ok (.ireturn, 1) := by decide +kernel
def j_Mo_range_14 (x0 : Nat) (x1 : Int32) (x2 : Int32) (x3 : Int32) (s0 : Nat) (s1 : Int32) (M : fm_M) : Option (Int32 × fm_M) :=
  (pi s0 10 0 s1 M).bind fun M101 =>
  (gi x0 10 0 M101).bind fun x103 =>
  if x103 ≤ 0 then
    (gr x0 10 8).bind fun q106 =>
    (gi x0 10 7 M101).bind fun x108 =>
    (si q106 (3 * x108) x1 M101).bind fun M110 =>
    (gr x0 10 8).bind fun q112 =>
    (gi x0 10 7 M110).bind fun x114 =>
    (si q112 ((3 * x114) + 1) x2 M110).bind fun M116 =>
    (gr x0 10 8).bind fun q118 =>
    (gi x0 10 7 M116).bind fun x120 =>
    (si q118 ((3 * x120) + 2) x3 M116).bind fun M122 =>
    (gi x0 10 7 M122).bind fun x124 =>
    (pi x0 10 7 (x124 + 1) M122).bind fun M126 =>
    (gi x0 10 7 M126).bind fun x128 =>
    some (x128, M126)
  else
    some (0, M101)
def f_Mo_range (x0 : Nat) (x1 : Int32) (x2 : Int32) (x3 : Int32) (M : fm_M) : Option (Int32 × fm_M) :=
  (gi x0 10 7 M).bind fun x130 =>
  if x130 = 2 then
    j_Mo_range_14 x0 x1 x2 x3 x0 1 M
  else
    j_Mo_range_14 x0 x1 x2 x3 x0 0 M
set_option maxHeartbeats 4000000 in
set_option maxRecDepth 100000 in
theorem w_Mo_range_14 {p : Program} {l : Launch} {e : Env} {s : State} {m : MethodId} {args : Array Value} {below : List Frame} {meth : Method} {c : Code} {G : fm_G} (C0 : fm_C p s m args meth c G (.code y_Mo_range b_Mo_range 4 (some .int)) "AllocationProfilerModel" b_Mo_range 4 (some .int)) {v : Int32} {M' : fm_M} (x0 : Nat) (x1 : Int32) (x2 : Int32) (x3 : Int32) (s0 : Nat) (s1 : Int32) {M : fm_M} {H : Heap} {locs : List Loc} (hP : kP G M H) (hS : kS G s H locs) {ls : Array Slot} (hl : lv_has ls 4 [(0, .ref (G.2.2 + x0)), (1, .int x1), (2, .int x2), (3, .int x3)]) (h : j_Mo_range_14 x0 x1 x2 x3 s0 s1 M = some (v, M')) : W p l e rm_Mo_range s m args below meth c H locs 0 0 (MQ below (fm_Q G 212 shF (some (.int v)) M') args s 0 0 (fm_A G.2.2)) (F0 m 14 ls [.int s1, .ref (G.2.2 + s0)]) := by
  have hx := C0.1
  have hb := C0.2.1
  unfold j_Mo_range_14 at h
  obtain ⟨M101, e102, h⟩ := ob h
  refine k_pi C0 F_Mo_122p ik_10_0 hP hS e102 d_Mo_range_14 (fun H locs hP hS => ?_)
  refine lv_aload_n hx hb d_Mo_range_17 rfl (lv_at hl 0 rfl) ?_
  obtain ⟨x103, e104, h⟩ := ob h
  refine k_gi C0 F_Mo_122 ik_10_0 hP e104 d_Mo_range_18 ?_
  refine lv_if_le (tgt := 26) hx hb d_Mo_range_21 (by decide) (fun c105 => ?_) (fun c105 => ?_)
  · rw [if_pos c105] at h
    refine lv_aload_n hx hb d_Mo_range_26 rfl (lv_at hl 0 rfl) ?_
    obtain ⟨q106, e107, h⟩ := ob h
    refine k_gr C0 F_Mo_22 hP e107 d_Mo_range_27 ?_
    refine lv_iconst (v := 3) hx hb d_Mo_range_30 ic_3 ?_
    refine lv_aload_n hx hb d_Mo_range_31 rfl (lv_at hl 0 rfl) ?_
    obtain ⟨x108, e109, h⟩ := ob h
    refine k_gi C0 F_Mo_147 ik_10_7 hP e109 d_Mo_range_32 ?_
    refine lv_imul hx hb d_Mo_range_35 ?_
    refine lv_iload_n hx hb d_Mo_range_36 rfl (lv_at hl 1 rfl) ?_
    obtain ⟨M110, e111, h⟩ := ob h
    refine k_si C0 hP hS e111 d_Mo_range_37 (fun H locs hP hS => ?_)
    refine lv_aload_n hx hb d_Mo_range_38 rfl (lv_at hl 0 rfl) ?_
    obtain ⟨q112, e113, h⟩ := ob h
    refine k_gr C0 F_Mo_22 hP e113 d_Mo_range_39 ?_
    refine lv_iconst (v := 3) hx hb d_Mo_range_42 ic_3 ?_
    refine lv_aload_n hx hb d_Mo_range_43 rfl (lv_at hl 0 rfl) ?_
    obtain ⟨x114, e115, h⟩ := ob h
    refine k_gi C0 F_Mo_147 ik_10_7 hP e115 d_Mo_range_44 ?_
    refine lv_imul hx hb d_Mo_range_47 ?_
    refine lv_iconst (v := 1) hx hb d_Mo_range_48 ic_1 ?_
    refine lv_iadd hx hb d_Mo_range_49 ?_
    refine lv_iload_n hx hb d_Mo_range_50 rfl (lv_at hl 2 rfl) ?_
    obtain ⟨M116, e117, h⟩ := ob h
    refine k_si C0 hP hS e117 d_Mo_range_51 (fun H locs hP hS => ?_)
    refine lv_aload_n hx hb d_Mo_range_52 rfl (lv_at hl 0 rfl) ?_
    obtain ⟨q118, e119, h⟩ := ob h
    refine k_gr C0 F_Mo_22 hP e119 d_Mo_range_53 ?_
    refine lv_iconst (v := 3) hx hb d_Mo_range_56 ic_3 ?_
    refine lv_aload_n hx hb d_Mo_range_57 rfl (lv_at hl 0 rfl) ?_
    obtain ⟨x120, e121, h⟩ := ob h
    refine k_gi C0 F_Mo_147 ik_10_7 hP e121 d_Mo_range_58 ?_
    refine lv_imul hx hb d_Mo_range_61 ?_
    refine lv_iconst (v := 2) hx hb d_Mo_range_62 ic_2 ?_
    refine lv_iadd hx hb d_Mo_range_63 ?_
    refine lv_iload_n hx hb d_Mo_range_64 rfl (lv_at hl 3 rfl) ?_
    obtain ⟨M122, e123, h⟩ := ob h
    refine k_si C0 hP hS e123 d_Mo_range_65 (fun H locs hP hS => ?_)
    refine lv_aload_n hx hb d_Mo_range_66 rfl (lv_at hl 0 rfl) ?_
    refine lv_dup hx hb d_Mo_range_67 rfl ?_
    obtain ⟨x124, e125, h⟩ := ob h
    refine k_gi C0 F_Mo_147 ik_10_7 hP e125 d_Mo_range_68 ?_
    refine lv_iconst (v := 1) hx hb d_Mo_range_71 ic_1 ?_
    refine lv_iadd hx hb d_Mo_range_72 ?_
    obtain ⟨M126, e127, h⟩ := ob h
    refine k_pi C0 F_Mo_147p ik_10_7 hP hS e127 d_Mo_range_73 (fun H locs hP hS => ?_)
    refine lv_aload_n hx hb d_Mo_range_76 rfl (lv_at hl 0 rfl) ?_
    obtain ⟨x128, e129, h⟩ := ob h
    refine k_gi C0 F_Mo_147 ik_10_7 hP e129 d_Mo_range_77 ?_
    cases h
    exact r_iret C0 hP hS d_Mo_range_80
  · rw [if_neg c105] at h
    refine lv_iconst (v := 0) hx hb d_Mo_range_24 ic_0 ?_
    cases h
    exact r_iret C0 hP hS d_Mo_range_25
set_option maxHeartbeats 4000000 in
set_option maxRecDepth 100000 in
theorem c_Mo_range (l : Launch) (G : fm_G) (x0 : Nat) (x1 : Int32) (x2 : Int32) (x3 : Int32) {v : Int32} {M M' : fm_M} (h : f_Mo_range x0 x1 x2 x3 M = some (v, M')) : kMet l y_Mo_range b_Mo_range 4 (some .int) rm_Mo_range G M [.ref (G.2.2 + x0), .int x1, .int x2, .int x3] (some (.int v)) M' := by
  refine r_met (by decide) rfl (Nat.le_of_ble_eq_true rfl) (fun p e s m args below meth c C0 hP ls hl => ?_)
  have hx := C0.1
  have hb := C0.2.1
  have hl : lv_has ls 4 [(0, .ref (G.2.2 + x0)), (1, .int x1), (2, .int x2), (3, .int x3)] := hl
  have hS : va_S (fm_A G.2.2) s.heap s.heap [] := va_S.rf
  unfold f_Mo_range at h
  refine lv_aload_n hx hb d_Mo_range_0 rfl (lv_at hl 0 rfl) ?_
  refine lv_aload_n hx hb d_Mo_range_1 rfl (lv_at hl 0 rfl) ?_
  obtain ⟨x130, e131, h⟩ := ob h
  refine k_gi C0 F_Mo_147 ik_10_7 hP e131 d_Mo_range_2 ?_
  refine lv_iconst (v := 2) hx hb d_Mo_range_5 ic_2 ?_
  refine lv_icmp_ne (tgt := 13) hx hb d_Mo_range_6 (by decide) (fun c132 => ?_) (fun c132 => ?_)
  · rw [if_neg c132] at h
    refine lv_iconst (v := 0) hx hb d_Mo_range_13 ic_0 ?_
    exact w_Mo_range_14 C0 x0 x1 x2 x3 x0 0 hP hS (lv_sub hl [0, 1, 2, 3] rfl) h
  · rw [if_pos c132] at h
    refine lv_iconst (v := 1) hx hb d_Mo_range_9 ic_1 ?_
    refine lv_goto (tgt := 14) hx hb d_Mo_range_10 (by decide) ?_
    exact w_Mo_range_14 C0 x0 x1 x2 x3 x0 1 hP hS (lv_sub hl [0, 1, 2, 3] rfl) h
/-! AllocationProfilerModel.jumps -/
def rm_Mo_jumps : Room := { frames := 0, cells := 0, slots := 0, locals := 0 }
theorem d_Mo_jumps_0 : decode b_Mo_jumps 0 = .ok (.iload_n 0, 1) := by decide +kernel
theorem d_Mo_jumps_1 : decode b_Mo_jumps 1 = .ok (.bipush 8, 2) := by decide +kernel
theorem d_Mo_jumps_3 : decode b_Mo_jumps 3 = .ok (.if_icmp .lt 13, 3) := by decide +kernel
theorem d_Mo_jumps_6 : decode b_Mo_jumps 6 = .ok (.iload_n 0, 1) := by decide +kernel
theorem d_Mo_jumps_7 : decode b_Mo_jumps 7 = .ok (.bipush 10, 2) := by decide +kernel
theorem d_Mo_jumps_9 : decode b_Mo_jumps 9 = .ok (.if_icmp .gt 7, 3) := by decide +kernel
theorem d_Mo_jumps_12 : decode b_Mo_jumps 12 = .ok (.iconst 1, 1) := by decide +kernel
theorem d_Mo_jumps_13 : decode b_Mo_jumps 13 = .ok (.goto 4, 3) := by decide +kernel
theorem d_Mo_jumps_16 : decode b_Mo_jumps 16 = .ok (.iconst 0, 1) := by decide +kernel
theorem d_Mo_jumps_17 : decode b_Mo_jumps 17 = .ok (.ireturn, 1) := by decide +kernel
def f_Mo_jumps (x0 : Int32) (M : fm_M) : Option (Int32 × fm_M) :=
  if x0 < 8 then
    some (0, M)
  else
    if 10 < x0 then
      some (0, M)
    else
      some (1, M)
set_option maxHeartbeats 4000000 in
set_option maxRecDepth 100000 in
theorem c_Mo_jumps (l : Launch) (G : fm_G) (x0 : Int32) {v : Int32} {M M' : fm_M} (h : f_Mo_jumps x0 M = some (v, M')) : kMet l y_Mo_jumps b_Mo_jumps 1 (some .boolean) rm_Mo_jumps G M [.int x0] (some (.int v)) M' := by
  refine r_met (by decide) rfl (Nat.le_of_ble_eq_true rfl) (fun p e s m args below meth c C0 hP ls hl => ?_)
  have hx := C0.1
  have hb := C0.2.1
  have hl : lv_has ls 1 [(0, .int x0)] := hl
  have hS : va_S (fm_A G.2.2) s.heap s.heap [] := va_S.rf
  unfold f_Mo_jumps at h
  refine lv_iload_n hx hb d_Mo_jumps_0 rfl (lv_at hl 0 rfl) ?_
  refine lv_bipush (v := 8) hx hb d_Mo_jumps_1 bp_8 ?_
  refine lv_icmp_lt (tgt := 16) hx hb d_Mo_jumps_3 (by decide) (fun c101 => ?_) (fun c101 => ?_)
  · rw [if_pos c101] at h
    refine lv_iconst (v := 0) hx hb d_Mo_jumps_16 ic_0 ?_
    cases h
    exact r_zret C0 hP hS (Or.inl rfl) d_Mo_jumps_17
  · rw [if_neg c101] at h
    refine lv_iload_n hx hb d_Mo_jumps_6 rfl (lv_at hl 0 rfl) ?_
    refine lv_bipush (v := 10) hx hb d_Mo_jumps_7 bp_10 ?_
    refine lv_icmp_gt (tgt := 16) hx hb d_Mo_jumps_9 (by decide) (fun c102 => ?_) (fun c102 => ?_)
    · rw [if_pos c102] at h
      refine lv_iconst (v := 0) hx hb d_Mo_jumps_16 ic_0 ?_
      cases h
      exact r_zret C0 hP hS (Or.inl rfl) d_Mo_jumps_17
    · rw [if_neg c102] at h
      refine lv_iconst (v := 1) hx hb d_Mo_jumps_12 ic_1 ?_
      refine lv_goto (tgt := 17) hx hb d_Mo_jumps_13 (by decide) ?_
      cases h
      exact r_zret C0 hP hS (Or.inr rfl) d_Mo_jumps_17
/-! AllocationProfilerModel.goesOn -/
def rm_Mo_goesOn : Room := { frames := 0, cells := 0, slots := 0, locals := 0 }
theorem d_Mo_goesOn_0 : decode b_Mo_goesOn 0 = .ok (.iload_n 0, 1) := by decide +kernel
theorem d_Mo_goesOn_1 : decode b_Mo_goesOn 1 = .ok (.bipush 8, 2) := by decide +kernel
theorem d_Mo_goesOn_3 : decode b_Mo_goesOn 3 = .ok (.if_icmp .eq 19, 3) := by decide +kernel
theorem d_Mo_goesOn_6 : decode b_Mo_goesOn 6 = .ok (.iload_n 0, 1) := by decide +kernel
theorem d_Mo_goesOn_7 : decode b_Mo_goesOn 7 = .ok (.bipush 14, 2) := by decide +kernel
theorem d_Mo_goesOn_9 : decode b_Mo_goesOn 9 = .ok (.if_icmp .eq 13, 3) := by decide +kernel
theorem d_Mo_goesOn_12 : decode b_Mo_goesOn 12 = .ok (.iload_n 0, 1) := by decide +kernel
theorem d_Mo_goesOn_13 : decode b_Mo_goesOn 13 = .ok (.bipush 15, 2) := by decide +kernel
theorem d_Mo_goesOn_15 : decode b_Mo_goesOn 15 = .ok (.if_icmp .eq 7, 3) := by decide +kernel
theorem d_Mo_goesOn_18 : decode b_Mo_goesOn 18 = .ok (.iconst 1, 1) := by decide +kernel
theorem d_Mo_goesOn_19 : decode b_Mo_goesOn 19 = .ok (.goto 4, 3) := by decide +kernel
theorem d_Mo_goesOn_22 : decode b_Mo_goesOn 22 = .ok (.iconst 0, 1) := by decide +kernel
theorem d_Mo_goesOn_23 : decode b_Mo_goesOn 23 = .ok (.ireturn, 1) := by decide +kernel
def f_Mo_goesOn (x0 : Int32) (M : fm_M) : Option (Int32 × fm_M) :=
  if x0 = 8 then
    some (0, M)
  else
    if x0 = 14 then
      some (0, M)
    else
      if x0 = 15 then
        some (0, M)
      else
        some (1, M)
set_option maxHeartbeats 4000000 in
set_option maxRecDepth 100000 in
theorem c_Mo_goesOn (l : Launch) (G : fm_G) (x0 : Int32) {v : Int32} {M M' : fm_M} (h : f_Mo_goesOn x0 M = some (v, M')) : kMet l y_Mo_goesOn b_Mo_goesOn 1 (some .boolean) rm_Mo_goesOn G M [.int x0] (some (.int v)) M' := by
  refine r_met (by decide) rfl (Nat.le_of_ble_eq_true rfl) (fun p e s m args below meth c C0 hP ls hl => ?_)
  have hx := C0.1
  have hb := C0.2.1
  have hl : lv_has ls 1 [(0, .int x0)] := hl
  have hS : va_S (fm_A G.2.2) s.heap s.heap [] := va_S.rf
  unfold f_Mo_goesOn at h
  refine lv_iload_n hx hb d_Mo_goesOn_0 rfl (lv_at hl 0 rfl) ?_
  refine lv_bipush (v := 8) hx hb d_Mo_goesOn_1 bp_8 ?_
  refine lv_icmp_eq (tgt := 22) hx hb d_Mo_goesOn_3 (by decide) (fun c101 => ?_) (fun c101 => ?_)
  · rw [if_pos c101] at h
    refine lv_iconst (v := 0) hx hb d_Mo_goesOn_22 ic_0 ?_
    cases h
    exact r_zret C0 hP hS (Or.inl rfl) d_Mo_goesOn_23
  · rw [if_neg c101] at h
    refine lv_iload_n hx hb d_Mo_goesOn_6 rfl (lv_at hl 0 rfl) ?_
    refine lv_bipush (v := 14) hx hb d_Mo_goesOn_7 bp_14 ?_
    refine lv_icmp_eq (tgt := 22) hx hb d_Mo_goesOn_9 (by decide) (fun c102 => ?_) (fun c102 => ?_)
    · rw [if_pos c102] at h
      refine lv_iconst (v := 0) hx hb d_Mo_goesOn_22 ic_0 ?_
      cases h
      exact r_zret C0 hP hS (Or.inl rfl) d_Mo_goesOn_23
    · rw [if_neg c102] at h
      refine lv_iload_n hx hb d_Mo_goesOn_12 rfl (lv_at hl 0 rfl) ?_
      refine lv_bipush (v := 15) hx hb d_Mo_goesOn_13 bp_15 ?_
      refine lv_icmp_eq (tgt := 22) hx hb d_Mo_goesOn_15 (by decide) (fun c103 => ?_) (fun c103 => ?_)
      · rw [if_pos c103] at h
        refine lv_iconst (v := 0) hx hb d_Mo_goesOn_22 ic_0 ?_
        cases h
        exact r_zret C0 hP hS (Or.inl rfl) d_Mo_goesOn_23
      · rw [if_neg c103] at h
        refine lv_iconst (v := 1) hx hb d_Mo_goesOn_18 ic_1 ?_
        refine lv_goto (tgt := 23) hx hb d_Mo_goesOn_19 (by decide) ?_
        cases h
        exact r_zret C0 hP hS (Or.inr rfl) d_Mo_goesOn_23
/-! AllocationProfilerModel.makes -/
def rm_Mo_makes : Room := { frames := 0, cells := 0, slots := 0, locals := 0 }
theorem d_Mo_makes_0 : decode b_Mo_makes 0 = .ok (.iload_n 0, 1) := by decide +kernel
theorem d_Mo_makes_1 : decode b_Mo_makes 1 = .ok (.bipush 11, 2) := by decide +kernel
theorem d_Mo_makes_3 : decode b_Mo_makes 3 = .ok (.if_icmp .eq 9, 3) := by decide +kernel
theorem d_Mo_makes_6 : decode b_Mo_makes 6 = .ok (.iload_n 0, 1) := by decide +kernel
theorem d_Mo_makes_7 : decode b_Mo_makes 7 = .ok (.bipush 12, 2) := by decide +kernel
theorem d_Mo_makes_9 : decode b_Mo_makes 9 = .ok (.if_icmp .ne 7, 3) := by decide +kernel
theorem d_Mo_makes_12 : decode b_Mo_makes 12 = .ok (.iconst 1, 1) := by decide +kernel
theorem d_Mo_makes_13 : decode b_Mo_makes 13 = .ok (.goto 4, 3) := by decide +kernel
theorem d_Mo_makes_16 : decode b_Mo_makes 16 = .ok (.iconst 0, 1) := by decide +kernel
theorem d_Mo_makes_17 : decode b_Mo_makes 17 = .ok (.ireturn, 1) := by decide +kernel
def j_Mo_makes_12  (M : fm_M) : Option (Int32 × fm_M) :=
  some (1, M)
def f_Mo_makes (x0 : Int32) (M : fm_M) : Option (Int32 × fm_M) :=
  if x0 = 11 then
    j_Mo_makes_12 M
  else
    if x0 = 12 then
      j_Mo_makes_12 M
    else
      some (0, M)
set_option maxHeartbeats 4000000 in
set_option maxRecDepth 100000 in
theorem w_Mo_makes_12 {p : Program} {l : Launch} {e : Env} {s : State} {m : MethodId} {args : Array Value} {below : List Frame} {meth : Method} {c : Code} {G : fm_G} (C0 : fm_C p s m args meth c G (.code y_Mo_makes b_Mo_makes 1 (some .boolean)) "AllocationProfilerModel" b_Mo_makes 1 (some .boolean)) {v : Int32} {M' : fm_M}  {M : fm_M} {H : Heap} {locs : List Loc} (hP : kP G M H) (hS : kS G s H locs) {ls : Array Slot} (hl : lv_has ls 1 []) (h : j_Mo_makes_12  M = some (v, M')) : W p l e rm_Mo_makes s m args below meth c H locs 0 0 (MQ below (fm_Q G 212 shF (some (.int v)) M') args s 0 0 (fm_A G.2.2)) (F0 m 12 ls []) := by
  have hx := C0.1
  have hb := C0.2.1
  unfold j_Mo_makes_12 at h
  refine lv_iconst (v := 1) hx hb d_Mo_makes_12 ic_1 ?_
  refine lv_goto (tgt := 17) hx hb d_Mo_makes_13 (by decide) ?_
  cases h
  exact r_zret C0 hP hS (Or.inr rfl) d_Mo_makes_17
set_option maxHeartbeats 4000000 in
set_option maxRecDepth 100000 in
theorem c_Mo_makes (l : Launch) (G : fm_G) (x0 : Int32) {v : Int32} {M M' : fm_M} (h : f_Mo_makes x0 M = some (v, M')) : kMet l y_Mo_makes b_Mo_makes 1 (some .boolean) rm_Mo_makes G M [.int x0] (some (.int v)) M' := by
  refine r_met (by decide) rfl (Nat.le_of_ble_eq_true rfl) (fun p e s m args below meth c C0 hP ls hl => ?_)
  have hx := C0.1
  have hb := C0.2.1
  have hl : lv_has ls 1 [(0, .int x0)] := hl
  have hS : va_S (fm_A G.2.2) s.heap s.heap [] := va_S.rf
  unfold f_Mo_makes at h
  refine lv_iload_n hx hb d_Mo_makes_0 rfl (lv_at hl 0 rfl) ?_
  refine lv_bipush (v := 11) hx hb d_Mo_makes_1 bp_11 ?_
  refine lv_icmp_eq (tgt := 12) hx hb d_Mo_makes_3 (by decide) (fun c101 => ?_) (fun c101 => ?_)
  · rw [if_pos c101] at h
    exact w_Mo_makes_12 C0 hP hS (lv_sub hl [] rfl) h
  · rw [if_neg c101] at h
    refine lv_iload_n hx hb d_Mo_makes_6 rfl (lv_at hl 0 rfl) ?_
    refine lv_bipush (v := 12) hx hb d_Mo_makes_7 bp_12 ?_
    refine lv_icmp_ne (tgt := 16) hx hb d_Mo_makes_9 (by decide) (fun c102 => ?_) (fun c102 => ?_)
    · rw [if_neg c102] at h
      refine lv_iconst (v := 0) hx hb d_Mo_makes_16 ic_0 ?_
      cases h
      exact r_zret C0 hP hS (Or.inl rfl) d_Mo_makes_17
    · rw [if_pos c102] at h
      exact w_Mo_makes_12 C0 hP hS (lv_sub hl [] rfl) h
/-! AllocationProfilerModel.takes -/
def rm_Mo_takes : Room := { frames := 0, cells := 0, slots := 0, locals := 0 }
theorem d_Mo_takes_0 : decode b_Mo_takes 0 = .ok (.iload_n 0, 1) := by decide +kernel
theorem d_Mo_takes_1 : decode b_Mo_takes 1 = .ok (.iconst 3, 1) := by decide +kernel
theorem d_Mo_takes_2 : decode b_Mo_takes 2 = .ok (.if_icmp .lt 12, 3) := by decide +kernel
theorem d_Mo_takes_5 : decode b_Mo_takes 5 = .ok (.iload_n 0, 1) := by decide +kernel
theorem d_Mo_takes_6 : decode b_Mo_takes 6 = .ok (.iconst 5, 1) := by decide +kernel
theorem d_Mo_takes_7 : decode b_Mo_takes 7 = .ok (.if_icmp .gt 7, 3) := by decide +kernel
theorem d_Mo_takes_10 : decode b_Mo_takes 10 = .ok (.iconst 2, 1) := by decide +kernel
theorem d_Mo_takes_11 : decode b_Mo_takes 11 = .ok (.goto 49, 3) := by decide +kernel
theorem d_Mo_takes_14 : decode b_Mo_takes 14 = .ok (.iload_n 0, 1) := by decide +kernel
theorem d_Mo_takes_15 : decode b_Mo_takes 15 = .ok (.iconst 2, 1) := by decide +kernel
theorem d_Mo_takes_16 : decode b_Mo_takes 16 = .ok (.if_icmp .eq 39, 3) := by decide +kernel
theorem d_Mo_takes_19 : decode b_Mo_takes 19 = .ok (.iload_n 0, 1) := by decide +kernel
theorem d_Mo_takes_20 : decode b_Mo_takes 20 = .ok (.bipush 6, 2) := by decide +kernel
theorem d_Mo_takes_22 : decode b_Mo_takes 22 = .ok (.if_icmp .eq 33, 3) := by decide +kernel
theorem d_Mo_takes_25 : decode b_Mo_takes 25 = .ok (.iload_n 0, 1) := by decide +kernel
theorem d_Mo_takes_26 : decode b_Mo_takes 26 = .ok (.bipush 7, 2) := by decide +kernel
theorem d_Mo_takes_28 : decode b_Mo_takes 28 = .ok (.if_icmp .eq 27, 3) := by decide +kernel
theorem d_Mo_takes_31 : decode b_Mo_takes 31 = .ok (.iload_n 0, 1) := by decide +kernel
theorem d_Mo_takes_32 : decode b_Mo_takes 32 = .ok (.bipush 9, 2) := by decide +kernel
theorem d_Mo_takes_34 : decode b_Mo_takes 34 = .ok (.if_icmp .eq 21, 3) := by decide +kernel
theorem d_Mo_takes_37 : decode b_Mo_takes 37 = .ok (.iload_n 0, 1) := by decide +kernel
theorem d_Mo_takes_38 : decode b_Mo_takes 38 = .ok (.bipush 10, 2) := by decide +kernel
theorem d_Mo_takes_40 : decode b_Mo_takes 40 = .ok (.if_icmp .eq 15, 3) := by decide +kernel
theorem d_Mo_takes_43 : decode b_Mo_takes 43 = .ok (.iload_n 0, 1) := by decide +kernel
theorem d_Mo_takes_44 : decode b_Mo_takes 44 = .ok (.bipush 12, 2) := by decide +kernel
theorem d_Mo_takes_46 : decode b_Mo_takes 46 = .ok (.if_icmp .lt 13, 3) := by decide +kernel
theorem d_Mo_takes_49 : decode b_Mo_takes 49 = .ok (.iload_n 0, 1) := by decide +kernel
theorem d_Mo_takes_50 : decode b_Mo_takes 50 = .ok (.bipush 15, 2) := by decide +kernel
theorem d_Mo_takes_52 : decode b_Mo_takes 52 = .ok (.if_icmp .gt 7, 3) := by decide +kernel
theorem d_Mo_takes_55 : decode b_Mo_takes 55 = .ok (.iconst 1, 1) := by decide +kernel
theorem d_Mo_takes_56 : decode b_Mo_takes 56 = .ok (.goto 4, 3) := by decide +kernel
theorem d_Mo_takes_59 : decode b_Mo_takes 59 = .ok (.iconst 0, 1) := by decide +kernel
theorem d_Mo_takes_60 : decode b_Mo_takes 60 = .ok (.ireturn, 1) := by decide +kernel
def j_Mo_takes_55  (M : fm_M) : Option (Int32 × fm_M) :=
  some (1, M)
def j_Mo_takes_14 (x0 : Int32) (M : fm_M) : Option (Int32 × fm_M) :=
  if x0 = 2 then
    j_Mo_takes_55 M
  else
    if x0 = 6 then
      j_Mo_takes_55 M
    else
      if x0 = 7 then
        j_Mo_takes_55 M
      else
        if x0 = 9 then
          j_Mo_takes_55 M
        else
          if x0 = 10 then
            j_Mo_takes_55 M
          else
            if x0 < 12 then
              some (0, M)
            else
              if 15 < x0 then
                some (0, M)
              else
                j_Mo_takes_55 M
def f_Mo_takes (x0 : Int32) (M : fm_M) : Option (Int32 × fm_M) :=
  if x0 < 3 then
    j_Mo_takes_14 x0 M
  else
    if 5 < x0 then
      j_Mo_takes_14 x0 M
    else
      some (2, M)
set_option maxHeartbeats 4000000 in
set_option maxRecDepth 100000 in
theorem w_Mo_takes_55 {p : Program} {l : Launch} {e : Env} {s : State} {m : MethodId} {args : Array Value} {below : List Frame} {meth : Method} {c : Code} {G : fm_G} (C0 : fm_C p s m args meth c G (.code y_Mo_takes b_Mo_takes 1 (some .int)) "AllocationProfilerModel" b_Mo_takes 1 (some .int)) {v : Int32} {M' : fm_M}  {M : fm_M} {H : Heap} {locs : List Loc} (hP : kP G M H) (hS : kS G s H locs) {ls : Array Slot} (hl : lv_has ls 1 []) (h : j_Mo_takes_55  M = some (v, M')) : W p l e rm_Mo_takes s m args below meth c H locs 0 0 (MQ below (fm_Q G 212 shF (some (.int v)) M') args s 0 0 (fm_A G.2.2)) (F0 m 55 ls []) := by
  have hx := C0.1
  have hb := C0.2.1
  unfold j_Mo_takes_55 at h
  refine lv_iconst (v := 1) hx hb d_Mo_takes_55 ic_1 ?_
  refine lv_goto (tgt := 60) hx hb d_Mo_takes_56 (by decide) ?_
  cases h
  exact r_iret C0 hP hS d_Mo_takes_60
set_option maxHeartbeats 4000000 in
set_option maxRecDepth 100000 in
theorem w_Mo_takes_14 {p : Program} {l : Launch} {e : Env} {s : State} {m : MethodId} {args : Array Value} {below : List Frame} {meth : Method} {c : Code} {G : fm_G} (C0 : fm_C p s m args meth c G (.code y_Mo_takes b_Mo_takes 1 (some .int)) "AllocationProfilerModel" b_Mo_takes 1 (some .int)) {v : Int32} {M' : fm_M} (x0 : Int32) {M : fm_M} {H : Heap} {locs : List Loc} (hP : kP G M H) (hS : kS G s H locs) {ls : Array Slot} (hl : lv_has ls 1 [(0, .int x0)]) (h : j_Mo_takes_14 x0 M = some (v, M')) : W p l e rm_Mo_takes s m args below meth c H locs 0 0 (MQ below (fm_Q G 212 shF (some (.int v)) M') args s 0 0 (fm_A G.2.2)) (F0 m 14 ls []) := by
  have hx := C0.1
  have hb := C0.2.1
  unfold j_Mo_takes_14 at h
  refine lv_iload_n hx hb d_Mo_takes_14 rfl (lv_at hl 0 rfl) ?_
  refine lv_iconst (v := 2) hx hb d_Mo_takes_15 ic_2 ?_
  refine lv_icmp_eq (tgt := 55) hx hb d_Mo_takes_16 (by decide) (fun c101 => ?_) (fun c101 => ?_)
  · rw [if_pos c101] at h
    exact w_Mo_takes_55 C0 hP hS (lv_sub hl [] rfl) h
  · rw [if_neg c101] at h
    refine lv_iload_n hx hb d_Mo_takes_19 rfl (lv_at hl 0 rfl) ?_
    refine lv_bipush (v := 6) hx hb d_Mo_takes_20 bp_6 ?_
    refine lv_icmp_eq (tgt := 55) hx hb d_Mo_takes_22 (by decide) (fun c102 => ?_) (fun c102 => ?_)
    · rw [if_pos c102] at h
      exact w_Mo_takes_55 C0 hP hS (lv_sub hl [] rfl) h
    · rw [if_neg c102] at h
      refine lv_iload_n hx hb d_Mo_takes_25 rfl (lv_at hl 0 rfl) ?_
      refine lv_bipush (v := 7) hx hb d_Mo_takes_26 bp_7 ?_
      refine lv_icmp_eq (tgt := 55) hx hb d_Mo_takes_28 (by decide) (fun c103 => ?_) (fun c103 => ?_)
      · rw [if_pos c103] at h
        exact w_Mo_takes_55 C0 hP hS (lv_sub hl [] rfl) h
      · rw [if_neg c103] at h
        refine lv_iload_n hx hb d_Mo_takes_31 rfl (lv_at hl 0 rfl) ?_
        refine lv_bipush (v := 9) hx hb d_Mo_takes_32 bp_9 ?_
        refine lv_icmp_eq (tgt := 55) hx hb d_Mo_takes_34 (by decide) (fun c104 => ?_) (fun c104 => ?_)
        · rw [if_pos c104] at h
          exact w_Mo_takes_55 C0 hP hS (lv_sub hl [] rfl) h
        · rw [if_neg c104] at h
          refine lv_iload_n hx hb d_Mo_takes_37 rfl (lv_at hl 0 rfl) ?_
          refine lv_bipush (v := 10) hx hb d_Mo_takes_38 bp_10 ?_
          refine lv_icmp_eq (tgt := 55) hx hb d_Mo_takes_40 (by decide) (fun c105 => ?_) (fun c105 => ?_)
          · rw [if_pos c105] at h
            exact w_Mo_takes_55 C0 hP hS (lv_sub hl [] rfl) h
          · rw [if_neg c105] at h
            refine lv_iload_n hx hb d_Mo_takes_43 rfl (lv_at hl 0 rfl) ?_
            refine lv_bipush (v := 12) hx hb d_Mo_takes_44 bp_12 ?_
            refine lv_icmp_lt (tgt := 59) hx hb d_Mo_takes_46 (by decide) (fun c106 => ?_) (fun c106 => ?_)
            · rw [if_pos c106] at h
              refine lv_iconst (v := 0) hx hb d_Mo_takes_59 ic_0 ?_
              cases h
              exact r_iret C0 hP hS d_Mo_takes_60
            · rw [if_neg c106] at h
              refine lv_iload_n hx hb d_Mo_takes_49 rfl (lv_at hl 0 rfl) ?_
              refine lv_bipush (v := 15) hx hb d_Mo_takes_50 bp_15 ?_
              refine lv_icmp_gt (tgt := 59) hx hb d_Mo_takes_52 (by decide) (fun c107 => ?_) (fun c107 => ?_)
              · rw [if_pos c107] at h
                refine lv_iconst (v := 0) hx hb d_Mo_takes_59 ic_0 ?_
                cases h
                exact r_iret C0 hP hS d_Mo_takes_60
              · rw [if_neg c107] at h
                exact w_Mo_takes_55 C0 hP hS (lv_sub hl [] rfl) h
set_option maxHeartbeats 4000000 in
set_option maxRecDepth 100000 in
theorem c_Mo_takes (l : Launch) (G : fm_G) (x0 : Int32) {v : Int32} {M M' : fm_M} (h : f_Mo_takes x0 M = some (v, M')) : kMet l y_Mo_takes b_Mo_takes 1 (some .int) rm_Mo_takes G M [.int x0] (some (.int v)) M' := by
  refine r_met (by decide) rfl (Nat.le_of_ble_eq_true rfl) (fun p e s m args below meth c C0 hP ls hl => ?_)
  have hx := C0.1
  have hb := C0.2.1
  have hl : lv_has ls 1 [(0, .int x0)] := hl
  have hS : va_S (fm_A G.2.2) s.heap s.heap [] := va_S.rf
  unfold f_Mo_takes at h
  refine lv_iload_n hx hb d_Mo_takes_0 rfl (lv_at hl 0 rfl) ?_
  refine lv_iconst (v := 3) hx hb d_Mo_takes_1 ic_3 ?_
  refine lv_icmp_lt (tgt := 14) hx hb d_Mo_takes_2 (by decide) (fun c108 => ?_) (fun c108 => ?_)
  · rw [if_pos c108] at h
    exact w_Mo_takes_14 C0 x0 hP hS (lv_sub hl [0] rfl) h
  · rw [if_neg c108] at h
    refine lv_iload_n hx hb d_Mo_takes_5 rfl (lv_at hl 0 rfl) ?_
    refine lv_iconst (v := 5) hx hb d_Mo_takes_6 ic_5 ?_
    refine lv_icmp_gt (tgt := 14) hx hb d_Mo_takes_7 (by decide) (fun c109 => ?_) (fun c109 => ?_)
    · rw [if_pos c109] at h
      exact w_Mo_takes_14 C0 x0 hP hS (lv_sub hl [0] rfl) h
    · rw [if_neg c109] at h
      refine lv_iconst (v := 2) hx hb d_Mo_takes_10 ic_2 ?_
      refine lv_goto (tgt := 60) hx hb d_Mo_takes_11 (by decide) ?_
      cases h
      exact r_iret C0 hP hS d_Mo_takes_60
/-! AllocationProfilerModel.puts -/
def rm_Mo_puts : Room := { frames := 0, cells := 0, slots := 0, locals := 0 }
theorem d_Mo_puts_0 : decode b_Mo_puts 0 = .ok (.iload_n 0, 1) := by decide +kernel
theorem d_Mo_puts_1 : decode b_Mo_puts 1 = .ok (.bipush 6, 2) := by decide +kernel
theorem d_Mo_puts_3 : decode b_Mo_puts 3 = .ok (.if_icmp .ne 7, 3) := by decide +kernel
theorem d_Mo_puts_6 : decode b_Mo_puts 6 = .ok (.iconst 2, 1) := by decide +kernel
theorem d_Mo_puts_7 : decode b_Mo_puts 7 = .ok (.goto 39, 3) := by decide +kernel
theorem d_Mo_puts_10 : decode b_Mo_puts 10 = .ok (.iload_n 0, 1) := by decide +kernel
theorem d_Mo_puts_11 : decode b_Mo_puts 11 = .ok (.ifCond .eq 30, 3) := by decide +kernel
theorem d_Mo_puts_14 : decode b_Mo_puts 14 = .ok (.iload_n 0, 1) := by decide +kernel
theorem d_Mo_puts_15 : decode b_Mo_puts 15 = .ok (.iconst 1, 1) := by decide +kernel
theorem d_Mo_puts_16 : decode b_Mo_puts 16 = .ok (.if_icmp .eq 25, 3) := by decide +kernel
theorem d_Mo_puts_19 : decode b_Mo_puts 19 = .ok (.iload_n 0, 1) := by decide +kernel
theorem d_Mo_puts_20 : decode b_Mo_puts 20 = .ok (.iconst 3, 1) := by decide +kernel
theorem d_Mo_puts_21 : decode b_Mo_puts 21 = .ok (.if_icmp .lt 8, 3) := by decide +kernel
theorem d_Mo_puts_24 : decode b_Mo_puts 24 = .ok (.iload_n 0, 1) := by decide +kernel
theorem d_Mo_puts_25 : decode b_Mo_puts 25 = .ok (.iconst 5, 1) := by decide +kernel
theorem d_Mo_puts_26 : decode b_Mo_puts 26 = .ok (.if_icmp .le 15, 3) := by decide +kernel
theorem d_Mo_puts_29 : decode b_Mo_puts 29 = .ok (.iload_n 0, 1) := by decide +kernel
theorem d_Mo_puts_30 : decode b_Mo_puts 30 = .ok (.bipush 11, 2) := by decide +kernel
theorem d_Mo_puts_32 : decode b_Mo_puts 32 = .ok (.if_icmp .lt 13, 3) := by decide +kernel
theorem d_Mo_puts_35 : decode b_Mo_puts 35 = .ok (.iload_n 0, 1) := by decide +kernel
theorem d_Mo_puts_36 : decode b_Mo_puts 36 = .ok (.bipush 13, 2) := by decide +kernel
theorem d_Mo_puts_38 : decode b_Mo_puts 38 = .ok (.if_icmp .gt 7, 3) := by decide +kernel
theorem d_Mo_puts_41 : decode b_Mo_puts 41 = .ok (.iconst 1, 1) := by decide +kernel
theorem d_Mo_puts_42 : decode b_Mo_puts 42 = .ok (.goto 4, 3) := by decide +kernel
theorem d_Mo_puts_45 : decode b_Mo_puts 45 = .ok (.iconst 0, 1) := by decide +kernel
theorem d_Mo_puts_46 : decode b_Mo_puts 46 = .ok (.ireturn, 1) := by decide +kernel
def j_Mo_puts_41  (M : fm_M) : Option (Int32 × fm_M) :=
  some (1, M)
def j_Mo_puts_29 (x0 : Int32) (M : fm_M) : Option (Int32 × fm_M) :=
  if x0 < 11 then
    some (0, M)
  else
    if 13 < x0 then
      some (0, M)
    else
      j_Mo_puts_41 M
def f_Mo_puts (x0 : Int32) (M : fm_M) : Option (Int32 × fm_M) :=
  if x0 = 6 then
    some (2, M)
  else
    if x0 = 0 then
      j_Mo_puts_41 M
    else
      if x0 = 1 then
        j_Mo_puts_41 M
      else
        if x0 < 3 then
          j_Mo_puts_29 x0 M
        else
          if x0 ≤ 5 then
            j_Mo_puts_41 M
          else
            j_Mo_puts_29 x0 M
set_option maxHeartbeats 4000000 in
set_option maxRecDepth 100000 in
theorem w_Mo_puts_41 {p : Program} {l : Launch} {e : Env} {s : State} {m : MethodId} {args : Array Value} {below : List Frame} {meth : Method} {c : Code} {G : fm_G} (C0 : fm_C p s m args meth c G (.code y_Mo_puts b_Mo_puts 1 (some .int)) "AllocationProfilerModel" b_Mo_puts 1 (some .int)) {v : Int32} {M' : fm_M}  {M : fm_M} {H : Heap} {locs : List Loc} (hP : kP G M H) (hS : kS G s H locs) {ls : Array Slot} (hl : lv_has ls 1 []) (h : j_Mo_puts_41  M = some (v, M')) : W p l e rm_Mo_puts s m args below meth c H locs 0 0 (MQ below (fm_Q G 212 shF (some (.int v)) M') args s 0 0 (fm_A G.2.2)) (F0 m 41 ls []) := by
  have hx := C0.1
  have hb := C0.2.1
  unfold j_Mo_puts_41 at h
  refine lv_iconst (v := 1) hx hb d_Mo_puts_41 ic_1 ?_
  refine lv_goto (tgt := 46) hx hb d_Mo_puts_42 (by decide) ?_
  cases h
  exact r_iret C0 hP hS d_Mo_puts_46
set_option maxHeartbeats 4000000 in
set_option maxRecDepth 100000 in
theorem w_Mo_puts_29 {p : Program} {l : Launch} {e : Env} {s : State} {m : MethodId} {args : Array Value} {below : List Frame} {meth : Method} {c : Code} {G : fm_G} (C0 : fm_C p s m args meth c G (.code y_Mo_puts b_Mo_puts 1 (some .int)) "AllocationProfilerModel" b_Mo_puts 1 (some .int)) {v : Int32} {M' : fm_M} (x0 : Int32) {M : fm_M} {H : Heap} {locs : List Loc} (hP : kP G M H) (hS : kS G s H locs) {ls : Array Slot} (hl : lv_has ls 1 [(0, .int x0)]) (h : j_Mo_puts_29 x0 M = some (v, M')) : W p l e rm_Mo_puts s m args below meth c H locs 0 0 (MQ below (fm_Q G 212 shF (some (.int v)) M') args s 0 0 (fm_A G.2.2)) (F0 m 29 ls []) := by
  have hx := C0.1
  have hb := C0.2.1
  unfold j_Mo_puts_29 at h
  refine lv_iload_n hx hb d_Mo_puts_29 rfl (lv_at hl 0 rfl) ?_
  refine lv_bipush (v := 11) hx hb d_Mo_puts_30 bp_11 ?_
  refine lv_icmp_lt (tgt := 45) hx hb d_Mo_puts_32 (by decide) (fun c101 => ?_) (fun c101 => ?_)
  · rw [if_pos c101] at h
    refine lv_iconst (v := 0) hx hb d_Mo_puts_45 ic_0 ?_
    cases h
    exact r_iret C0 hP hS d_Mo_puts_46
  · rw [if_neg c101] at h
    refine lv_iload_n hx hb d_Mo_puts_35 rfl (lv_at hl 0 rfl) ?_
    refine lv_bipush (v := 13) hx hb d_Mo_puts_36 bp_13 ?_
    refine lv_icmp_gt (tgt := 45) hx hb d_Mo_puts_38 (by decide) (fun c102 => ?_) (fun c102 => ?_)
    · rw [if_pos c102] at h
      refine lv_iconst (v := 0) hx hb d_Mo_puts_45 ic_0 ?_
      cases h
      exact r_iret C0 hP hS d_Mo_puts_46
    · rw [if_neg c102] at h
      exact w_Mo_puts_41 C0 hP hS (lv_sub hl [] rfl) h
set_option maxHeartbeats 4000000 in
set_option maxRecDepth 100000 in
theorem c_Mo_puts (l : Launch) (G : fm_G) (x0 : Int32) {v : Int32} {M M' : fm_M} (h : f_Mo_puts x0 M = some (v, M')) : kMet l y_Mo_puts b_Mo_puts 1 (some .int) rm_Mo_puts G M [.int x0] (some (.int v)) M' := by
  refine r_met (by decide) rfl (Nat.le_of_ble_eq_true rfl) (fun p e s m args below meth c C0 hP ls hl => ?_)
  have hx := C0.1
  have hb := C0.2.1
  have hl : lv_has ls 1 [(0, .int x0)] := hl
  have hS : va_S (fm_A G.2.2) s.heap s.heap [] := va_S.rf
  unfold f_Mo_puts at h
  refine lv_iload_n hx hb d_Mo_puts_0 rfl (lv_at hl 0 rfl) ?_
  refine lv_bipush (v := 6) hx hb d_Mo_puts_1 bp_6 ?_
  refine lv_icmp_ne (tgt := 10) hx hb d_Mo_puts_3 (by decide) (fun c103 => ?_) (fun c103 => ?_)
  · rw [if_neg c103] at h
    refine lv_iload_n hx hb d_Mo_puts_10 rfl (lv_at hl 0 rfl) ?_
    refine lv_if_eq (tgt := 41) hx hb d_Mo_puts_11 (by decide) (fun c104 => ?_) (fun c104 => ?_)
    · rw [if_pos c104] at h
      exact w_Mo_puts_41 C0 hP hS (lv_sub hl [] rfl) h
    · rw [if_neg c104] at h
      refine lv_iload_n hx hb d_Mo_puts_14 rfl (lv_at hl 0 rfl) ?_
      refine lv_iconst (v := 1) hx hb d_Mo_puts_15 ic_1 ?_
      refine lv_icmp_eq (tgt := 41) hx hb d_Mo_puts_16 (by decide) (fun c105 => ?_) (fun c105 => ?_)
      · rw [if_pos c105] at h
        exact w_Mo_puts_41 C0 hP hS (lv_sub hl [] rfl) h
      · rw [if_neg c105] at h
        refine lv_iload_n hx hb d_Mo_puts_19 rfl (lv_at hl 0 rfl) ?_
        refine lv_iconst (v := 3) hx hb d_Mo_puts_20 ic_3 ?_
        refine lv_icmp_lt (tgt := 29) hx hb d_Mo_puts_21 (by decide) (fun c106 => ?_) (fun c106 => ?_)
        · rw [if_pos c106] at h
          exact w_Mo_puts_29 C0 x0 hP hS (lv_sub hl [0] rfl) h
        · rw [if_neg c106] at h
          refine lv_iload_n hx hb d_Mo_puts_24 rfl (lv_at hl 0 rfl) ?_
          refine lv_iconst (v := 5) hx hb d_Mo_puts_25 ic_5 ?_
          refine lv_icmp_le (tgt := 41) hx hb d_Mo_puts_26 (by decide) (fun c107 => ?_) (fun c107 => ?_)
          · rw [if_pos c107] at h
            exact w_Mo_puts_41 C0 hP hS (lv_sub hl [] rfl) h
          · rw [if_neg c107] at h
            exact w_Mo_puts_29 C0 x0 hP hS (lv_sub hl [0] rfl) h
  · rw [if_pos c103] at h
    refine lv_iconst (v := 2) hx hb d_Mo_puts_6 ic_2 ?_
    refine lv_goto (tgt := 46) hx hb d_Mo_puts_7 (by decide) ?_
    cases h
    exact r_iret C0 hP hS d_Mo_puts_46
/-! AllocationProfilerModel.fits -/
def rm_Mo_fits : Room := { frames := 1, cells := 0, slots := 0, locals := 21 }
theorem d_Mo_fits_0 : decode b_Mo_fits 0 = .ok (.iload_n 1, 1) := by decide +kernel
theorem d_Mo_fits_1 : decode b_Mo_fits 1 = .ok (.iconst 1, 1) := by decide +kernel
theorem d_Mo_fits_2 : decode b_Mo_fits 2 = .ok (.if_icmp .eq 8, 3) := by decide +kernel
theorem d_Mo_fits_5 : decode b_Mo_fits 5 = .ok (.iload_n 1, 1) := by decide +kernel
theorem d_Mo_fits_6 : decode b_Mo_fits 6 = .ok (.iconst 2, 1) := by decide +kernel
theorem d_Mo_fits_7 : decode b_Mo_fits 7 = .ok (.if_icmp .ne 17, 3) := by decide +kernel
theorem d_Mo_fits_10 : decode b_Mo_fits 10 = .ok (.iload_n 2, 1) := by decide +kernel
theorem d_Mo_fits_11 : decode b_Mo_fits 11 = .ok (.iconst 4, 1) := by decide +kernel
theorem d_Mo_fits_12 : decode b_Mo_fits 12 = .ok (.invokestatic 128, 3) := by decide +kernel
theorem d_Mo_fits_15 : decode b_Mo_fits 15 = .ok (.ifCond .ne 7, 3) := by decide +kernel
theorem d_Mo_fits_18 : decode b_Mo_fits 18 = .ok (.iconst 1, 1) := by decide +kernel
theorem d_Mo_fits_19 : decode b_Mo_fits 19 = .ok (.goto 4, 3) := by decide +kernel
theorem d_Mo_fits_22 : decode b_Mo_fits 22 = .ok (.iconst 0, 1) := by decide +kernel
theorem d_Mo_fits_23 : decode b_Mo_fits 23 = .ok (.ireturn, 1) := by decide +kernel
theorem d_Mo_fits_24 : decode b_Mo_fits 24 = .ok (.iload_n 1, 1) := by decide +kernel
theorem d_Mo_fits_25 : decode b_Mo_fits 25 = .ok (.invokestatic 150, 3) := by decide +kernel
theorem d_Mo_fits_28 : decode b_Mo_fits 28 = .ok (.ifCond .eq 20, 3) := by decide +kernel
theorem d_Mo_fits_31 : decode b_Mo_fits 31 = .ok (.iload_n 2, 1) := by decide +kernel
theorem d_Mo_fits_32 : decode b_Mo_fits 32 = .ok (.aload_n 0, 1) := by decide +kernel
theorem d_Mo_fits_33 : decode b_Mo_fits 33 = .ok (.getfield 144, 3) := by decide +kernel
theorem d_Mo_fits_36 : decode b_Mo_fits 36 = .ok (.invokestatic 128, 3) := by decide +kernel
theorem d_Mo_fits_39 : decode b_Mo_fits 39 = .ok (.ifCond .ne 7, 3) := by decide +kernel
theorem d_Mo_fits_42 : decode b_Mo_fits 42 = .ok (.iconst 1, 1) := by decide +kernel
theorem d_Mo_fits_43 : decode b_Mo_fits 43 = .ok (.goto 4, 3) := by decide +kernel
theorem d_Mo_fits_46 : decode b_Mo_fits 46 = .ok (.iconst 0, 1) := by decide +kernel
theorem d_Mo_fits_47 : decode b_Mo_fits 47 = .ok (.ireturn, 1) := by decide +kernel
theorem d_Mo_fits_48 : decode b_Mo_fits 48 = .ok (.iload_n 1, 1) := by decide +kernel
theorem d_Mo_fits_49 : decode b_Mo_fits 49 = .ok (.bipush 11, 2) := by decide +kernel
theorem d_Mo_fits_51 : decode b_Mo_fits 51 = .ok (.if_icmp .ne 20, 3) := by decide +kernel
theorem d_Mo_fits_54 : decode b_Mo_fits 54 = .ok (.iload_n 2, 1) := by decide +kernel
theorem d_Mo_fits_55 : decode b_Mo_fits 55 = .ok (.aload_n 0, 1) := by decide +kernel
theorem d_Mo_fits_56 : decode b_Mo_fits 56 = .ok (.getfield 125, 3) := by decide +kernel
theorem d_Mo_fits_59 : decode b_Mo_fits 59 = .ok (.invokestatic 128, 3) := by decide +kernel
theorem d_Mo_fits_62 : decode b_Mo_fits 62 = .ok (.ifCond .ne 7, 3) := by decide +kernel
theorem d_Mo_fits_65 : decode b_Mo_fits 65 = .ok (.iconst 1, 1) := by decide +kernel
theorem d_Mo_fits_66 : decode b_Mo_fits 66 = .ok (.goto 4, 3) := by decide +kernel
theorem d_Mo_fits_69 : decode b_Mo_fits 69 = .ok (.iconst 0, 1) := by decide +kernel
theorem d_Mo_fits_70 : decode b_Mo_fits 70 = .ok (.ireturn, 1) := by decide +kernel
theorem d_Mo_fits_71 : decode b_Mo_fits 71 = .ok (.iload_n 1, 1) := by decide +kernel
theorem d_Mo_fits_72 : decode b_Mo_fits 72 = .ok (.bipush 12, 2) := by decide +kernel
theorem d_Mo_fits_74 : decode b_Mo_fits 74 = .ok (.if_icmp .ne 30, 3) := by decide +kernel
theorem d_Mo_fits_77 : decode b_Mo_fits 77 = .ok (.iload_n 2, 1) := by decide +kernel
theorem d_Mo_fits_78 : decode b_Mo_fits 78 = .ok (.iconst 1, 1) := by decide +kernel
theorem d_Mo_fits_79 : decode b_Mo_fits 79 = .ok (.if_icmp .eq 19, 3) := by decide +kernel
theorem d_Mo_fits_82 : decode b_Mo_fits 82 = .ok (.iload_n 2, 1) := by decide +kernel
theorem d_Mo_fits_83 : decode b_Mo_fits 83 = .ok (.iconst 2, 1) := by decide +kernel
theorem d_Mo_fits_84 : decode b_Mo_fits 84 = .ok (.if_icmp .eq 14, 3) := by decide +kernel
theorem d_Mo_fits_87 : decode b_Mo_fits 87 = .ok (.iload_n 2, 1) := by decide +kernel
theorem d_Mo_fits_88 : decode b_Mo_fits 88 = .ok (.iconst 4, 1) := by decide +kernel
theorem d_Mo_fits_89 : decode b_Mo_fits 89 = .ok (.if_icmp .eq 9, 3) := by decide +kernel
theorem d_Mo_fits_92 : decode b_Mo_fits 92 = .ok (.iload_n 2, 1) := by decide +kernel
theorem d_Mo_fits_93 : decode b_Mo_fits 93 = .ok (.bipush 8, 2) := by decide +kernel
theorem d_Mo_fits_95 : decode b_Mo_fits 95 = .ok (.if_icmp .ne 7, 3) := by decide +kernel
theorem d_Mo_fits_98 : decode b_Mo_fits 98 = .ok (.iconst 1, 1) := by decide +kernel
theorem d_Mo_fits_99 : decode b_Mo_fits 99 = .ok (.goto 4, 3) := by decide +kernel
theorem d_Mo_fits_102 : decode b_Mo_fits 102 = .ok (.iconst 0, 1) := by decide +kernel
theorem d_Mo_fits_103 : decode b_Mo_fits 103 = .ok (.ireturn, 1) := by decide +kernel
theorem d_Mo_fits_104 : decode b_Mo_fits 104 = .ok (.iload_n 1, 1) := by decide +kernel
theorem d_Mo_fits_105 : decode b_Mo_fits 105 = .ok (.bipush 13, 2) := by decide +kernel
theorem d_Mo_fits_107 : decode b_Mo_fits 107 = .ok (.if_icmp .ne 15, 3) := by decide +kernel
theorem d_Mo_fits_110 : decode b_Mo_fits 110 = .ok (.iload_n 2, 1) := by decide +kernel
theorem d_Mo_fits_111 : decode b_Mo_fits 111 = .ok (.ifCond .lt 15, 3) := by decide +kernel
theorem d_Mo_fits_114 : decode b_Mo_fits 114 = .ok (.iload_n 2, 1) := by decide +kernel
theorem d_Mo_fits_115 : decode b_Mo_fits 115 = .ok (.aload_n 0, 1) := by decide +kernel
theorem d_Mo_fits_116 : decode b_Mo_fits 116 = .ok (.getfield 154, 3) := by decide +kernel
theorem d_Mo_fits_119 : decode b_Mo_fits 119 = .ok (.if_icmp .gt 7, 3) := by decide +kernel
theorem d_Mo_fits_122 : decode b_Mo_fits 122 = .ok (.iconst 1, 1) := by decide +kernel
theorem d_Mo_fits_123 : decode b_Mo_fits 123 = .ok (.goto 4, 3) := by decide +kernel
theorem d_Mo_fits_126 : decode b_Mo_fits 126 = .ok (.iconst 0, 1) := by decide +kernel
theorem d_Mo_fits_127 : decode b_Mo_fits 127 = .ok (.ireturn, 1) := by decide +kernel
def j_Mo_fits_10 (x2 : Int32) (M : fm_M) : Option (Int32 × fm_M) :=
  bd (f_Mo_out x2 4 M) fun x103 M101 =>
  if x103 = 0 then
    some (1, M101)
  else
    some (0, M101)
def j_Mo_fits_98  (M : fm_M) : Option (Int32 × fm_M) :=
  some (1, M)
def j_Mo_fits_122  (M : fm_M) : Option (Int32 × fm_M) :=
  some (1, M)
def f_Mo_fits (x0 : Nat) (x1 : Int32) (x2 : Int32) (M : fm_M) : Option (Int32 × fm_M) :=
  if x1 = 1 then
    j_Mo_fits_10 x2 M
  else
    if x1 = 2 then
      j_Mo_fits_10 x2 M
    else
      bd (f_Mo_jumps x1 M) fun x109 M107 =>
      if x109 = 0 then
        if x1 = 11 then
          (gi x0 10 1 M107).bind fun x122 =>
          bd (f_Mo_out x2 x122 M107) fun x126 M124 =>
          if x126 = 0 then
            some (1, M124)
          else
            some (0, M124)
        else
          if x1 = 12 then
            if x2 = 1 then
              j_Mo_fits_98 M107
            else
              if x2 = 2 then
                j_Mo_fits_98 M107
              else
                if x2 = 4 then
                  j_Mo_fits_98 M107
                else
                  if x2 = 8 then
                    j_Mo_fits_98 M107
                  else
                    some (0, M107)
          else
            if x1 = 13 then
              if x2 < 0 then
                some (0, M107)
              else
                (gi x0 10 9 M107).bind fun x115 =>
                if x115 < x2 then
                  some (0, M107)
                else
                  j_Mo_fits_122 M107
            else
              j_Mo_fits_122 M107
      else
        (gi x0 10 4 M107).bind fun x128 =>
        bd (f_Mo_out x2 x128 M107) fun x132 M130 =>
        if x132 = 0 then
          some (1, M130)
        else
          some (0, M130)
set_option maxHeartbeats 4000000 in
set_option maxRecDepth 100000 in
theorem w_Mo_fits_10 {p : Program} {l : Launch} {e : Env} {s : State} {m : MethodId} {args : Array Value} {below : List Frame} {meth : Method} {c : Code} {G : fm_G} (C0 : fm_C p s m args meth c G (.code y_Mo_fits b_Mo_fits 3 (some .boolean)) "AllocationProfilerModel" b_Mo_fits 3 (some .boolean)) {v : Int32} {M' : fm_M} (x2 : Int32) {M : fm_M} {H : Heap} {locs : List Loc} (hP : kP G M H) (hS : kS G s H locs) {ls : Array Slot} (hl : lv_has ls 3 [(2, .int x2)]) (h : j_Mo_fits_10 x2 M = some (v, M')) : W p l e rm_Mo_fits s m args below meth c H locs 0 0 (MQ below (fm_Q G 212 shF (some (.int v)) M') args s 0 0 (fm_A G.2.2)) (F0 m 10 ls []) := by
  have hx := C0.1
  have hb := C0.2.1
  unfold j_Mo_fits_10 at h
  refine lv_iload_n hx hb d_Mo_fits_10 rfl (lv_at hl 0 rfl) ?_
  refine lv_iconst (v := 4) hx hb d_Mo_fits_11 ic_4 ?_
  obtain ⟨x103, M101, e102, h⟩ := ob2 h
  refine k_cS C0 L_Mo_128 (As := [.int x2, .int 4]) (c_Mo_out l G x2 4 e102) ⟨rfl, rfl⟩ ⟨Nat.le_of_ble_eq_true rfl, Nat.le_of_ble_eq_true rfl⟩ hP hS rfl hl.1 rfl (Nat.le_of_ble_eq_true rfl) d_Mo_fits_12 ⟨Nat.zero_le _, Nat.zero_le _⟩ (fun H locs hP hS => ?_)
  refine lv_if_ne (tgt := 22) hx hb d_Mo_fits_15 (by decide) (fun c104 => ?_) (fun c104 => ?_)
  · rw [if_neg c104] at h
    refine lv_iconst (v := 0) hx hb d_Mo_fits_22 ic_0 ?_
    cases h
    exact r_zret C0 hP hS (Or.inl rfl) d_Mo_fits_23
  · rw [if_pos c104] at h
    refine lv_iconst (v := 1) hx hb d_Mo_fits_18 ic_1 ?_
    refine lv_goto (tgt := 23) hx hb d_Mo_fits_19 (by decide) ?_
    cases h
    exact r_zret C0 hP hS (Or.inr rfl) d_Mo_fits_23
set_option maxHeartbeats 4000000 in
set_option maxRecDepth 100000 in
theorem w_Mo_fits_98 {p : Program} {l : Launch} {e : Env} {s : State} {m : MethodId} {args : Array Value} {below : List Frame} {meth : Method} {c : Code} {G : fm_G} (C0 : fm_C p s m args meth c G (.code y_Mo_fits b_Mo_fits 3 (some .boolean)) "AllocationProfilerModel" b_Mo_fits 3 (some .boolean)) {v : Int32} {M' : fm_M}  {M : fm_M} {H : Heap} {locs : List Loc} (hP : kP G M H) (hS : kS G s H locs) {ls : Array Slot} (hl : lv_has ls 3 []) (h : j_Mo_fits_98  M = some (v, M')) : W p l e rm_Mo_fits s m args below meth c H locs 0 0 (MQ below (fm_Q G 212 shF (some (.int v)) M') args s 0 0 (fm_A G.2.2)) (F0 m 98 ls []) := by
  have hx := C0.1
  have hb := C0.2.1
  unfold j_Mo_fits_98 at h
  refine lv_iconst (v := 1) hx hb d_Mo_fits_98 ic_1 ?_
  refine lv_goto (tgt := 103) hx hb d_Mo_fits_99 (by decide) ?_
  cases h
  exact r_zret C0 hP hS (Or.inr rfl) d_Mo_fits_103
set_option maxHeartbeats 4000000 in
set_option maxRecDepth 100000 in
theorem w_Mo_fits_122 {p : Program} {l : Launch} {e : Env} {s : State} {m : MethodId} {args : Array Value} {below : List Frame} {meth : Method} {c : Code} {G : fm_G} (C0 : fm_C p s m args meth c G (.code y_Mo_fits b_Mo_fits 3 (some .boolean)) "AllocationProfilerModel" b_Mo_fits 3 (some .boolean)) {v : Int32} {M' : fm_M}  {M : fm_M} {H : Heap} {locs : List Loc} (hP : kP G M H) (hS : kS G s H locs) {ls : Array Slot} (hl : lv_has ls 3 []) (h : j_Mo_fits_122  M = some (v, M')) : W p l e rm_Mo_fits s m args below meth c H locs 0 0 (MQ below (fm_Q G 212 shF (some (.int v)) M') args s 0 0 (fm_A G.2.2)) (F0 m 122 ls []) := by
  have hx := C0.1
  have hb := C0.2.1
  unfold j_Mo_fits_122 at h
  refine lv_iconst (v := 1) hx hb d_Mo_fits_122 ic_1 ?_
  refine lv_goto (tgt := 127) hx hb d_Mo_fits_123 (by decide) ?_
  cases h
  exact r_zret C0 hP hS (Or.inr rfl) d_Mo_fits_127
set_option maxHeartbeats 4000000 in
set_option maxRecDepth 100000 in
theorem c_Mo_fits (l : Launch) (G : fm_G) (x0 : Nat) (x1 : Int32) (x2 : Int32) {v : Int32} {M M' : fm_M} (h : f_Mo_fits x0 x1 x2 M = some (v, M')) : kMet l y_Mo_fits b_Mo_fits 3 (some .boolean) rm_Mo_fits G M [.ref (G.2.2 + x0), .int x1, .int x2] (some (.int v)) M' := by
  refine r_met (by decide) rfl (Nat.le_of_ble_eq_true rfl) (fun p e s m args below meth c C0 hP ls hl => ?_)
  have hx := C0.1
  have hb := C0.2.1
  have hl : lv_has ls 3 [(0, .ref (G.2.2 + x0)), (1, .int x1), (2, .int x2)] := hl
  have hS : va_S (fm_A G.2.2) s.heap s.heap [] := va_S.rf
  unfold f_Mo_fits at h
  refine lv_iload_n hx hb d_Mo_fits_0 rfl (lv_at hl 1 rfl) ?_
  refine lv_iconst (v := 1) hx hb d_Mo_fits_1 ic_1 ?_
  refine lv_icmp_eq (tgt := 10) hx hb d_Mo_fits_2 (by decide) (fun c105 => ?_) (fun c105 => ?_)
  · rw [if_pos c105] at h
    exact w_Mo_fits_10 C0 x2 hP hS (lv_sub hl [2] rfl) h
  · rw [if_neg c105] at h
    refine lv_iload_n hx hb d_Mo_fits_5 rfl (lv_at hl 1 rfl) ?_
    refine lv_iconst (v := 2) hx hb d_Mo_fits_6 ic_2 ?_
    refine lv_icmp_ne (tgt := 24) hx hb d_Mo_fits_7 (by decide) (fun c106 => ?_) (fun c106 => ?_)
    · rw [if_neg c106] at h
      refine lv_iload_n hx hb d_Mo_fits_24 rfl (lv_at hl 1 rfl) ?_
      obtain ⟨x109, M107, e108, h⟩ := ob2 h
      refine k_cS C0 L_Mo_150 (As := [.int x1]) (c_Mo_jumps l G x1 e108) ⟨rfl, rfl⟩ ⟨Nat.le_of_ble_eq_true rfl, Nat.le_of_ble_eq_true rfl⟩ hP hS rfl hl.1 rfl (Nat.le_of_ble_eq_true rfl) d_Mo_fits_25 ⟨Nat.zero_le _, Nat.zero_le _⟩ (fun H locs hP hS => ?_)
      refine lv_if_eq (tgt := 48) hx hb d_Mo_fits_28 (by decide) (fun c110 => ?_) (fun c110 => ?_)
      · rw [if_pos c110] at h
        refine lv_iload_n hx hb d_Mo_fits_48 rfl (lv_at hl 1 rfl) ?_
        refine lv_bipush (v := 11) hx hb d_Mo_fits_49 bp_11 ?_
        refine lv_icmp_ne (tgt := 71) hx hb d_Mo_fits_51 (by decide) (fun c111 => ?_) (fun c111 => ?_)
        · rw [if_neg c111] at h
          refine lv_iload_n hx hb d_Mo_fits_71 rfl (lv_at hl 1 rfl) ?_
          refine lv_bipush (v := 12) hx hb d_Mo_fits_72 bp_12 ?_
          refine lv_icmp_ne (tgt := 104) hx hb d_Mo_fits_74 (by decide) (fun c112 => ?_) (fun c112 => ?_)
          · rw [if_neg c112] at h
            refine lv_iload_n hx hb d_Mo_fits_104 rfl (lv_at hl 1 rfl) ?_
            refine lv_bipush (v := 13) hx hb d_Mo_fits_105 bp_13 ?_
            refine lv_icmp_ne (tgt := 122) hx hb d_Mo_fits_107 (by decide) (fun c113 => ?_) (fun c113 => ?_)
            · rw [if_neg c113] at h
              exact w_Mo_fits_122 C0 hP hS (lv_sub hl [] rfl) h
            · rw [if_pos c113] at h
              refine lv_iload_n hx hb d_Mo_fits_110 rfl (lv_at hl 2 rfl) ?_
              refine lv_if_lt (tgt := 126) hx hb d_Mo_fits_111 (by decide) (fun c114 => ?_) (fun c114 => ?_)
              · rw [if_pos c114] at h
                refine lv_iconst (v := 0) hx hb d_Mo_fits_126 ic_0 ?_
                cases h
                exact r_zret C0 hP hS (Or.inl rfl) d_Mo_fits_127
              · rw [if_neg c114] at h
                refine lv_iload_n hx hb d_Mo_fits_114 rfl (lv_at hl 2 rfl) ?_
                refine lv_aload_n hx hb d_Mo_fits_115 rfl (lv_at hl 0 rfl) ?_
                obtain ⟨x115, e116, h⟩ := ob h
                refine k_gi C0 F_Mo_154 ik_10_9 hP e116 d_Mo_fits_116 ?_
                refine lv_icmp_gt (tgt := 126) hx hb d_Mo_fits_119 (by decide) (fun c117 => ?_) (fun c117 => ?_)
                · rw [if_pos c117] at h
                  refine lv_iconst (v := 0) hx hb d_Mo_fits_126 ic_0 ?_
                  cases h
                  exact r_zret C0 hP hS (Or.inl rfl) d_Mo_fits_127
                · rw [if_neg c117] at h
                  exact w_Mo_fits_122 C0 hP hS (lv_sub hl [] rfl) h
          · rw [if_pos c112] at h
            refine lv_iload_n hx hb d_Mo_fits_77 rfl (lv_at hl 2 rfl) ?_
            refine lv_iconst (v := 1) hx hb d_Mo_fits_78 ic_1 ?_
            refine lv_icmp_eq (tgt := 98) hx hb d_Mo_fits_79 (by decide) (fun c118 => ?_) (fun c118 => ?_)
            · rw [if_pos c118] at h
              exact w_Mo_fits_98 C0 hP hS (lv_sub hl [] rfl) h
            · rw [if_neg c118] at h
              refine lv_iload_n hx hb d_Mo_fits_82 rfl (lv_at hl 2 rfl) ?_
              refine lv_iconst (v := 2) hx hb d_Mo_fits_83 ic_2 ?_
              refine lv_icmp_eq (tgt := 98) hx hb d_Mo_fits_84 (by decide) (fun c119 => ?_) (fun c119 => ?_)
              · rw [if_pos c119] at h
                exact w_Mo_fits_98 C0 hP hS (lv_sub hl [] rfl) h
              · rw [if_neg c119] at h
                refine lv_iload_n hx hb d_Mo_fits_87 rfl (lv_at hl 2 rfl) ?_
                refine lv_iconst (v := 4) hx hb d_Mo_fits_88 ic_4 ?_
                refine lv_icmp_eq (tgt := 98) hx hb d_Mo_fits_89 (by decide) (fun c120 => ?_) (fun c120 => ?_)
                · rw [if_pos c120] at h
                  exact w_Mo_fits_98 C0 hP hS (lv_sub hl [] rfl) h
                · rw [if_neg c120] at h
                  refine lv_iload_n hx hb d_Mo_fits_92 rfl (lv_at hl 2 rfl) ?_
                  refine lv_bipush (v := 8) hx hb d_Mo_fits_93 bp_8 ?_
                  refine lv_icmp_ne (tgt := 102) hx hb d_Mo_fits_95 (by decide) (fun c121 => ?_) (fun c121 => ?_)
                  · rw [if_neg c121] at h
                    refine lv_iconst (v := 0) hx hb d_Mo_fits_102 ic_0 ?_
                    cases h
                    exact r_zret C0 hP hS (Or.inl rfl) d_Mo_fits_103
                  · rw [if_pos c121] at h
                    exact w_Mo_fits_98 C0 hP hS (lv_sub hl [] rfl) h
        · rw [if_pos c111] at h
          refine lv_iload_n hx hb d_Mo_fits_54 rfl (lv_at hl 2 rfl) ?_
          refine lv_aload_n hx hb d_Mo_fits_55 rfl (lv_at hl 0 rfl) ?_
          obtain ⟨x122, e123, h⟩ := ob h
          refine k_gi C0 F_Mo_125 ik_10_1 hP e123 d_Mo_fits_56 ?_
          obtain ⟨x126, M124, e125, h⟩ := ob2 h
          refine k_cS C0 L_Mo_128 (As := [.int x2, .int x122]) (c_Mo_out l G x2 x122 e125) ⟨rfl, rfl⟩ ⟨Nat.le_of_ble_eq_true rfl, Nat.le_of_ble_eq_true rfl⟩ hP hS rfl hl.1 rfl (Nat.le_of_ble_eq_true rfl) d_Mo_fits_59 ⟨Nat.zero_le _, Nat.zero_le _⟩ (fun H locs hP hS => ?_)
          refine lv_if_ne (tgt := 69) hx hb d_Mo_fits_62 (by decide) (fun c127 => ?_) (fun c127 => ?_)
          · rw [if_neg c127] at h
            refine lv_iconst (v := 0) hx hb d_Mo_fits_69 ic_0 ?_
            cases h
            exact r_zret C0 hP hS (Or.inl rfl) d_Mo_fits_70
          · rw [if_pos c127] at h
            refine lv_iconst (v := 1) hx hb d_Mo_fits_65 ic_1 ?_
            refine lv_goto (tgt := 70) hx hb d_Mo_fits_66 (by decide) ?_
            cases h
            exact r_zret C0 hP hS (Or.inr rfl) d_Mo_fits_70
      · rw [if_neg c110] at h
        refine lv_iload_n hx hb d_Mo_fits_31 rfl (lv_at hl 2 rfl) ?_
        refine lv_aload_n hx hb d_Mo_fits_32 rfl (lv_at hl 0 rfl) ?_
        obtain ⟨x128, e129, h⟩ := ob h
        refine k_gi C0 F_Mo_144 ik_10_4 hP e129 d_Mo_fits_33 ?_
        obtain ⟨x132, M130, e131, h⟩ := ob2 h
        refine k_cS C0 L_Mo_128 (As := [.int x2, .int x128]) (c_Mo_out l G x2 x128 e131) ⟨rfl, rfl⟩ ⟨Nat.le_of_ble_eq_true rfl, Nat.le_of_ble_eq_true rfl⟩ hP hS rfl hl.1 rfl (Nat.le_of_ble_eq_true rfl) d_Mo_fits_36 ⟨Nat.zero_le _, Nat.zero_le _⟩ (fun H locs hP hS => ?_)
        refine lv_if_ne (tgt := 46) hx hb d_Mo_fits_39 (by decide) (fun c133 => ?_) (fun c133 => ?_)
        · rw [if_neg c133] at h
          refine lv_iconst (v := 0) hx hb d_Mo_fits_46 ic_0 ?_
          cases h
          exact r_zret C0 hP hS (Or.inl rfl) d_Mo_fits_47
        · rw [if_pos c133] at h
          refine lv_iconst (v := 1) hx hb d_Mo_fits_42 ic_1 ?_
          refine lv_goto (tgt := 47) hx hb d_Mo_fits_43 (by decide) ?_
          cases h
          exact r_zret C0 hP hS (Or.inr rfl) d_Mo_fits_47
    · rw [if_pos c106] at h
      exact w_Mo_fits_10 C0 x2 hP hS (lv_sub hl [2] rfl) h
/-! AllocationProfilerModel.reach -/
def rm_Mo_reach : Room := { frames := 0, cells := 0, slots := 0, locals := 0 }
theorem d_Mo_reach_0 : decode b_Mo_reach 0 = .ok (.aload_n 0, 1) := by decide +kernel
theorem d_Mo_reach_1 : decode b_Mo_reach 1 = .ok (.getfield 63, 3) := by decide +kernel
theorem d_Mo_reach_4 : decode b_Mo_reach 4 = .ok (.bipush 10, 2) := by decide +kernel
theorem d_Mo_reach_6 : decode b_Mo_reach 6 = .ok (.iload_n 1, 1) := by decide +kernel
theorem d_Mo_reach_7 : decode b_Mo_reach 7 = .ok (.imul, 1) := by decide +kernel
theorem d_Mo_reach_8 : decode b_Mo_reach 8 = .ok (.iload_n 2, 1) := by decide +kernel
theorem d_Mo_reach_9 : decode b_Mo_reach 9 = .ok (.iadd, 1) := by decide +kernel
theorem d_Mo_reach_10 : decode b_Mo_reach 10 = .ok (.baload, 1) := by decide +kernel
theorem d_Mo_reach_11 : decode b_Mo_reach 11 = .ok (.ifCond .eq 5, 3) := by decide +kernel
theorem d_Mo_reach_14 : decode b_Mo_reach 14 = .ok (.iconst 0, 1) := by decide +kernel
theorem d_Mo_reach_15 : decode b_Mo_reach 15 = .ok (.ireturn, 1) := by decide +kernel
theorem d_Mo_reach_16 : decode b_Mo_reach 16 = .ok (.aload_n 0, 1) := by decide +kernel
theorem d_Mo_reach_17 : decode b_Mo_reach 17 = .ok (.getfield 63, 3) := by decide +kernel
theorem d_Mo_reach_20 : decode b_Mo_reach 20 = .ok (.bipush 10, 2) := by decide +kernel
theorem d_Mo_reach_22 : decode b_Mo_reach 22 = .ok (.iload_n 1, 1) := by decide +kernel
theorem d_Mo_reach_23 : decode b_Mo_reach 23 = .ok (.imul, 1) := by decide +kernel
theorem d_Mo_reach_24 : decode b_Mo_reach 24 = .ok (.iload_n 2, 1) := by decide +kernel
theorem d_Mo_reach_25 : decode b_Mo_reach 25 = .ok (.iadd, 1) := by decide +kernel
theorem d_Mo_reach_26 : decode b_Mo_reach 26 = .ok (.iconst 1, 1) := by decide +kernel
theorem d_Mo_reach_27 : decode b_Mo_reach 27 = .ok (.bastore, 1) := by decide +kernel
theorem d_Mo_reach_28 : decode b_Mo_reach 28 = .ok (.iconst 1, 1) := by decide +kernel
theorem d_Mo_reach_29 : decode b_Mo_reach 29 = .ok (.ireturn, 1) := by decide +kernel
def f_Mo_reach (x0 : Nat) (x1 : Int32) (x2 : Int32) (M : fm_M) : Option (Int32 × fm_M) :=
  (gr x0 10 24).bind fun q101 =>
  (az q101 ((10 * x1) + x2) M).bind fun x103 =>
  if x103 = 0 then
    (gr x0 10 24).bind fun q106 =>
    (sz q106 ((10 * x1) + x2) 1 M).bind fun M108 =>
    some (1, M108)
  else
    some (0, M)
set_option maxHeartbeats 4000000 in
set_option maxRecDepth 100000 in
theorem c_Mo_reach (l : Launch) (G : fm_G) (x0 : Nat) (x1 : Int32) (x2 : Int32) {v : Int32} {M M' : fm_M} (h : f_Mo_reach x0 x1 x2 M = some (v, M')) : kMet l y_Mo_reach b_Mo_reach 3 (some .boolean) rm_Mo_reach G M [.ref (G.2.2 + x0), .int x1, .int x2] (some (.int v)) M' := by
  refine r_met (by decide) rfl (Nat.le_of_ble_eq_true rfl) (fun p e s m args below meth c C0 hP ls hl => ?_)
  have hx := C0.1
  have hb := C0.2.1
  have hl : lv_has ls 3 [(0, .ref (G.2.2 + x0)), (1, .int x1), (2, .int x2)] := hl
  have hS : va_S (fm_A G.2.2) s.heap s.heap [] := va_S.rf
  unfold f_Mo_reach at h
  refine lv_aload_n hx hb d_Mo_reach_0 rfl (lv_at hl 0 rfl) ?_
  obtain ⟨q101, e102, h⟩ := ob h
  refine k_gr C0 F_Mo_63 hP e102 d_Mo_reach_1 ?_
  refine lv_bipush (v := 10) hx hb d_Mo_reach_4 bp_10 ?_
  refine lv_iload_n hx hb d_Mo_reach_6 rfl (lv_at hl 1 rfl) ?_
  refine lv_imul hx hb d_Mo_reach_7 ?_
  refine lv_iload_n hx hb d_Mo_reach_8 rfl (lv_at hl 2 rfl) ?_
  refine lv_iadd hx hb d_Mo_reach_9 ?_
  obtain ⟨x103, e104, h⟩ := ob h
  refine k_az C0 hP e104 d_Mo_reach_10 ?_
  refine lv_if_eq (tgt := 16) hx hb d_Mo_reach_11 (by decide) (fun c105 => ?_) (fun c105 => ?_)
  · rw [if_pos c105] at h
    refine lv_aload_n hx hb d_Mo_reach_16 rfl (lv_at hl 0 rfl) ?_
    obtain ⟨q106, e107, h⟩ := ob h
    refine k_gr C0 F_Mo_63 hP e107 d_Mo_reach_17 ?_
    refine lv_bipush (v := 10) hx hb d_Mo_reach_20 bp_10 ?_
    refine lv_iload_n hx hb d_Mo_reach_22 rfl (lv_at hl 1 rfl) ?_
    refine lv_imul hx hb d_Mo_reach_23 ?_
    refine lv_iload_n hx hb d_Mo_reach_24 rfl (lv_at hl 2 rfl) ?_
    refine lv_iadd hx hb d_Mo_reach_25 ?_
    refine lv_iconst (v := 1) hx hb d_Mo_reach_26 ic_1 ?_
    obtain ⟨M108, e109, h⟩ := ob h
    refine k_sz C0 hP hS (by decide) e109 d_Mo_reach_27 (fun H locs hP hS => ?_)
    refine lv_iconst (v := 1) hx hb d_Mo_reach_28 ic_1 ?_
    cases h
    exact r_zret C0 hP hS (Or.inr rfl) d_Mo_reach_29
  · rw [if_neg c105] at h
    refine lv_iconst (v := 0) hx hb d_Mo_reach_14 ic_0 ?_
    cases h
    exact r_zret C0 hP hS (Or.inl rfl) d_Mo_reach_15
/-! AllocationProfilerModel.follow -/
def rm_Mo_follow : Room := { frames := 1, cells := 0, slots := 0, locals := 22 }
theorem d_Mo_follow_0 : decode b_Mo_follow 0 = .ok (.aload_n 0, 1) := by decide +kernel
theorem d_Mo_follow_1 : decode b_Mo_follow 1 = .ok (.getfield 16, 3) := by decide +kernel
theorem d_Mo_follow_4 : decode b_Mo_follow 4 = .ok (.iload_n 1, 1) := by decide +kernel
theorem d_Mo_follow_5 : decode b_Mo_follow 5 = .ok (.iaload, 1) := by decide +kernel
theorem d_Mo_follow_6 : decode b_Mo_follow 6 = .ok (.istore_n 3, 1) := by decide +kernel
theorem d_Mo_follow_7 : decode b_Mo_follow 7 = .ok (.aload_n 0, 1) := by decide +kernel
theorem d_Mo_follow_8 : decode b_Mo_follow 8 = .ok (.getfield 63, 3) := by decide +kernel
theorem d_Mo_follow_11 : decode b_Mo_follow 11 = .ok (.bipush 10, 2) := by decide +kernel
theorem d_Mo_follow_13 : decode b_Mo_follow 13 = .ok (.iload_n 1, 1) := by decide +kernel
theorem d_Mo_follow_14 : decode b_Mo_follow 14 = .ok (.imul, 1) := by decide +kernel
theorem d_Mo_follow_15 : decode b_Mo_follow 15 = .ok (.iload_n 2, 1) := by decide +kernel
theorem d_Mo_follow_16 : decode b_Mo_follow 16 = .ok (.iadd, 1) := by decide +kernel
theorem d_Mo_follow_17 : decode b_Mo_follow 17 = .ok (.baload, 1) := by decide +kernel
theorem d_Mo_follow_18 : decode b_Mo_follow 18 = .ok (.ifCond .eq 16, 3) := by decide +kernel
theorem d_Mo_follow_21 : decode b_Mo_follow 21 = .ok (.iload_n 2, 1) := by decide +kernel
theorem d_Mo_follow_22 : decode b_Mo_follow 22 = .ok (.iconst 5, 1) := by decide +kernel
theorem d_Mo_follow_23 : decode b_Mo_follow 23 = .ok (.if_icmp .gt 11, 3) := by decide +kernel
theorem d_Mo_follow_26 : decode b_Mo_follow 26 = .ok (.iload_n 2, 1) := by decide +kernel
theorem d_Mo_follow_27 : decode b_Mo_follow 27 = .ok (.iload_n 3, 1) := by decide +kernel
theorem d_Mo_follow_28 : decode b_Mo_follow 28 = .ok (.invokestatic 157, 3) := by decide +kernel
theorem d_Mo_follow_31 : decode b_Mo_follow 31 = .ok (.if_icmp .ge 5, 3) := by decide +kernel
theorem d_Mo_follow_34 : decode b_Mo_follow 34 = .ok (.iconst 0, 1) := by decide +kernel
theorem d_Mo_follow_35 : decode b_Mo_follow 35 = .ok (.ireturn, 1) := by decide +kernel
theorem d_Mo_follow_36 : decode b_Mo_follow 36 = .ok (.iload_n 2, 1) := by decide +kernel
theorem d_Mo_follow_37 : decode b_Mo_follow 37 = .ok (.iload_n 3, 1) := by decide +kernel
theorem d_Mo_follow_38 : decode b_Mo_follow 38 = .ok (.invokestatic 157, 3) := by decide +kernel
theorem d_Mo_follow_41 : decode b_Mo_follow 41 = .ok (.isub, 1) := by decide +kernel
theorem d_Mo_follow_42 : decode b_Mo_follow 42 = .ok (.iload_n 3, 1) := by decide +kernel
theorem d_Mo_follow_43 : decode b_Mo_follow 43 = .ok (.invokestatic 160, 3) := by decide +kernel
theorem d_Mo_follow_46 : decode b_Mo_follow 46 = .ok (.iadd, 1) := by decide +kernel
theorem d_Mo_follow_47 : decode b_Mo_follow 47 = .ok (.istore 4, 2) := by decide +kernel
theorem d_Mo_follow_49 : decode b_Mo_follow 49 = .ok (.iload_n 3, 1) := by decide +kernel
theorem d_Mo_follow_50 : decode b_Mo_follow 50 = .ok (.invokestatic 163, 3) := by decide +kernel
theorem d_Mo_follow_53 : decode b_Mo_follow 53 = .ok (.ifCond .eq 19, 3) := by decide +kernel
theorem d_Mo_follow_56 : decode b_Mo_follow 56 = .ok (.aload_n 0, 1) := by decide +kernel
theorem d_Mo_follow_57 : decode b_Mo_follow 57 = .ok (.iload_n 1, 1) := by decide +kernel
theorem d_Mo_follow_58 : decode b_Mo_follow 58 = .ok (.iconst 1, 1) := by decide +kernel
theorem d_Mo_follow_59 : decode b_Mo_follow 59 = .ok (.iadd, 1) := by decide +kernel
theorem d_Mo_follow_60 : decode b_Mo_follow 60 = .ok (.iload 4, 2) := by decide +kernel
theorem d_Mo_follow_62 : decode b_Mo_follow 62 = .ok (.invokevirtual 166, 3) := by decide +kernel
theorem d_Mo_follow_65 : decode b_Mo_follow 65 = .ok (.ifCond .eq 7, 3) := by decide +kernel
theorem d_Mo_follow_68 : decode b_Mo_follow 68 = .ok (.iconst 1, 1) := by decide +kernel
theorem d_Mo_follow_69 : decode b_Mo_follow 69 = .ok (.goto 4, 3) := by decide +kernel
theorem d_Mo_follow_72 : decode b_Mo_follow 72 = .ok (.iconst 0, 1) := by decide +kernel
theorem d_Mo_follow_73 : decode b_Mo_follow 73 = .ok (.istore 5, 2) := by decide +kernel
theorem d_Mo_follow_75 : decode b_Mo_follow 75 = .ok (.iload_n 3, 1) := by decide +kernel
theorem d_Mo_follow_76 : decode b_Mo_follow 76 = .ok (.invokestatic 150, 3) := by decide +kernel
theorem d_Mo_follow_79 : decode b_Mo_follow 79 = .ok (.ifCond .eq 21, 3) := by decide +kernel
theorem d_Mo_follow_82 : decode b_Mo_follow 82 = .ok (.aload_n 0, 1) := by decide +kernel
theorem d_Mo_follow_83 : decode b_Mo_follow 83 = .ok (.aload_n 0, 1) := by decide +kernel
theorem d_Mo_follow_84 : decode b_Mo_follow 84 = .ok (.getfield 19, 3) := by decide +kernel
theorem d_Mo_follow_87 : decode b_Mo_follow 87 = .ok (.iload_n 1, 1) := by decide +kernel
theorem d_Mo_follow_88 : decode b_Mo_follow 88 = .ok (.iaload, 1) := by decide +kernel
theorem d_Mo_follow_89 : decode b_Mo_follow 89 = .ok (.iload 4, 2) := by decide +kernel
theorem d_Mo_follow_91 : decode b_Mo_follow 91 = .ok (.invokevirtual 166, 3) := by decide +kernel
theorem d_Mo_follow_94 : decode b_Mo_follow 94 = .ok (.ifCond .eq 6, 3) := by decide +kernel
theorem d_Mo_follow_97 : decode b_Mo_follow 97 = .ok (.iconst 1, 1) := by decide +kernel
theorem d_Mo_follow_98 : decode b_Mo_follow 98 = .ok (.istore 5, 2) := by decide +kernel
theorem d_Mo_follow_100 : decode b_Mo_follow 100 = .ok (.iconst 0, 1) := by decide +kernel
theorem d_Mo_follow_101 : decode b_Mo_follow 101 = .ok (.istore 6, 2) := by decide +kernel
theorem d_Mo_follow_103 : decode b_Mo_follow 103 = .ok (.iload 6, 2) := by decide +kernel
theorem d_Mo_follow_105 : decode b_Mo_follow 105 = .ok (.aload_n 0, 1) := by decide +kernel
theorem d_Mo_follow_106 : decode b_Mo_follow 106 = .ok (.getfield 147, 3) := by decide +kernel
theorem d_Mo_follow_109 : decode b_Mo_follow 109 = .ok (.if_icmp .ge 71, 3) := by decide +kernel
theorem d_Mo_follow_112 : decode b_Mo_follow 112 = .ok (.iload_n 1, 1) := by decide +kernel
theorem d_Mo_follow_113 : decode b_Mo_follow 113 = .ok (.aload_n 0, 1) := by decide +kernel
theorem d_Mo_follow_114 : decode b_Mo_follow 114 = .ok (.getfield 22, 3) := by decide +kernel
theorem d_Mo_follow_117 : decode b_Mo_follow 117 = .ok (.iconst 3, 1) := by decide +kernel
theorem d_Mo_follow_118 : decode b_Mo_follow 118 = .ok (.iload 6, 2) := by decide +kernel
theorem d_Mo_follow_120 : decode b_Mo_follow 120 = .ok (.imul, 1) := by decide +kernel
theorem d_Mo_follow_121 : decode b_Mo_follow 121 = .ok (.iaload, 1) := by decide +kernel
theorem d_Mo_follow_122 : decode b_Mo_follow 122 = .ok (.if_icmp .lt 22, 3) := by decide +kernel
theorem d_Mo_follow_125 : decode b_Mo_follow 125 = .ok (.iload_n 1, 1) := by decide +kernel
theorem d_Mo_follow_126 : decode b_Mo_follow 126 = .ok (.aload_n 0, 1) := by decide +kernel
theorem d_Mo_follow_127 : decode b_Mo_follow 127 = .ok (.getfield 22, 3) := by decide +kernel
theorem d_Mo_follow_130 : decode b_Mo_follow 130 = .ok (.iconst 3, 1) := by decide +kernel
theorem d_Mo_follow_131 : decode b_Mo_follow 131 = .ok (.iload 6, 2) := by decide +kernel
theorem d_Mo_follow_133 : decode b_Mo_follow 133 = .ok (.imul, 1) := by decide +kernel
theorem d_Mo_follow_134 : decode b_Mo_follow 134 = .ok (.iconst 1, 1) := by decide +kernel
theorem d_Mo_follow_135 : decode b_Mo_follow 135 = .ok (.iadd, 1) := by decide +kernel
theorem d_Mo_follow_136 : decode b_Mo_follow 136 = .ok (.iaload, 1) := by decide +kernel
theorem d_Mo_follow_137 : decode b_Mo_follow 137 = .ok (.if_icmp .ge 7, 3) := by decide +kernel
theorem d_Mo_follow_140 : decode b_Mo_follow 140 = .ok (.iconst 1, 1) := by decide +kernel
theorem d_Mo_follow_141 : decode b_Mo_follow 141 = .ok (.goto 4, 3) := by decide +kernel
theorem d_Mo_follow_144 : decode b_Mo_follow 144 = .ok (.iconst 0, 1) := by decide +kernel
theorem d_Mo_follow_145 : decode b_Mo_follow 145 = .ok (.istore 7, 2) := by decide +kernel
theorem d_Mo_follow_147 : decode b_Mo_follow 147 = .ok (.iload 7, 2) := by decide +kernel
theorem d_Mo_follow_149 : decode b_Mo_follow 149 = .ok (.ifCond .eq 25, 3) := by decide +kernel
theorem d_Mo_follow_152 : decode b_Mo_follow 152 = .ok (.aload_n 0, 1) := by decide +kernel
theorem d_Mo_follow_153 : decode b_Mo_follow 153 = .ok (.aload_n 0, 1) := by decide +kernel
theorem d_Mo_follow_154 : decode b_Mo_follow 154 = .ok (.getfield 22, 3) := by decide +kernel
theorem d_Mo_follow_157 : decode b_Mo_follow 157 = .ok (.iconst 3, 1) := by decide +kernel
theorem d_Mo_follow_158 : decode b_Mo_follow 158 = .ok (.iload 6, 2) := by decide +kernel
theorem d_Mo_follow_160 : decode b_Mo_follow 160 = .ok (.imul, 1) := by decide +kernel
theorem d_Mo_follow_161 : decode b_Mo_follow 161 = .ok (.iconst 2, 1) := by decide +kernel
theorem d_Mo_follow_162 : decode b_Mo_follow 162 = .ok (.iadd, 1) := by decide +kernel
theorem d_Mo_follow_163 : decode b_Mo_follow 163 = .ok (.iaload, 1) := by decide +kernel
theorem d_Mo_follow_164 : decode b_Mo_follow 164 = .ok (.iconst 1, 1) := by decide +kernel
theorem d_Mo_follow_165 : decode b_Mo_follow 165 = .ok (.invokevirtual 166, 3) := by decide +kernel
theorem d_Mo_follow_168 : decode b_Mo_follow 168 = .ok (.ifCond .eq 6, 3) := by decide +kernel
theorem d_Mo_follow_171 : decode b_Mo_follow 171 = .ok (.iconst 1, 1) := by decide +kernel
theorem d_Mo_follow_172 : decode b_Mo_follow 172 = .ok (.istore 5, 2) := by decide +kernel
theorem d_Mo_follow_174 : decode b_Mo_follow 174 = .ok (.iinc 6 1, 3) := by decide +kernel
theorem d_Mo_follow_177 : decode b_Mo_follow 177 = .ok (.goto (-74), 3) := by decide +kernel
theorem d_Mo_follow_180 : decode b_Mo_follow 180 = .ok (.iload 5, 2) := by decide +kernel
theorem d_Mo_follow_182 : decode b_Mo_follow 182 = .ok (.ireturn, 1) := by decide +kernel
def j_Mo_follow_174 (k103 : Nat → Int32 → Int32 → Int32 → fm_M → Option (Int32 × fm_M)) (x0 : Nat) (x1 : Int32) (x5 : Int32) (x6 : Int32) (M : fm_M) : Option (Int32 × fm_M) :=
  k103 x0 x1 x5 (x6 + 1) M
def j_Mo_follow_145 (k103 : Nat → Int32 → Int32 → Int32 → fm_M → Option (Int32 × fm_M)) (x0 : Nat) (x1 : Int32) (x5 : Int32) (x6 : Int32) (s0 : Int32) (M : fm_M) : Option (Int32 × fm_M) :=
  if s0 = 0 then
    j_Mo_follow_174 k103 x0 x1 x5 x6 M
  else
    (gr x0 10 8).bind fun q102 =>
    (ai q102 ((3 * x6) + 2) M).bind fun x104 =>
    (ck x0 10).bind fun _ =>
    bd (f_Mo_reach x0 x104 1 M) fun x109 M107 =>
    if x109 = 0 then
      j_Mo_follow_174 k103 x0 x1 x5 x6 M107
    else
      j_Mo_follow_174 k103 x0 x1 1 x6 M107
def j_Mo_follow_144 (k103 : Nat → Int32 → Int32 → Int32 → fm_M → Option (Int32 × fm_M)) (x0 : Nat) (x1 : Int32) (x5 : Int32) (x6 : Int32) (M : fm_M) : Option (Int32 × fm_M) :=
  j_Mo_follow_145 k103 x0 x1 x5 x6 0 M
def h_Mo_follow_103 : Nat → Nat → Int32 → Int32 → Int32 → fm_M → Option (Int32 × fm_M)
  | 0, _, _, _, _, _ => none
  | n + 1, x0, x1, x5, x6, M =>
    (gi x0 10 7 M).bind fun x111 =>
    if x111 ≤ x6 then
      (bz x5).bind fun _ =>
      some (x5, M)
    else
      (gr x0 10 8).bind fun q115 =>
      (ai q115 (3 * x6) M).bind fun x117 =>
      if x1 < x117 then
        j_Mo_follow_144 (h_Mo_follow_103 n) x0 x1 x5 x6 M
      else
        (gr x0 10 8).bind fun q120 =>
        (ai q120 ((3 * x6) + 1) M).bind fun x122 =>
        if x122 ≤ x1 then
          j_Mo_follow_144 (h_Mo_follow_103 n) x0 x1 x5 x6 M
        else
          j_Mo_follow_145 (h_Mo_follow_103 n) x0 x1 x5 x6 1 M
def j_Mo_follow_100 (x0 : Nat) (x1 : Int32) (x5 : Int32) (M : fm_M) : Option (Int32 × fm_M) :=
  h_Mo_follow_103 100000 x0 x1 x5 0 M
def j_Mo_follow_73 (x0 : Nat) (x1 : Int32) (x3 : Int32) (x4 : Int32) (s0 : Int32) (M : fm_M) : Option (Int32 × fm_M) :=
  bd (f_Mo_jumps x3 M) fun x127 M125 =>
  if x127 = 0 then
    j_Mo_follow_100 x0 x1 s0 M125
  else
    (gr x0 10 6).bind fun q129 =>
    (ai q129 x1 M125).bind fun x131 =>
    (ck x0 10).bind fun _ =>
    bd (f_Mo_reach x0 x131 x4 M125) fun x136 M134 =>
    if x136 = 0 then
      j_Mo_follow_100 x0 x1 s0 M134
    else
      j_Mo_follow_100 x0 x1 1 M134
def j_Mo_follow_72 (x0 : Nat) (x1 : Int32) (x3 : Int32) (x4 : Int32) (M : fm_M) : Option (Int32 × fm_M) :=
  j_Mo_follow_73 x0 x1 x3 x4 0 M
def f_Mo_follow (x0 : Nat) (x1 : Int32) (x2 : Int32) (M : fm_M) : Option (Int32 × fm_M) :=
  (gr x0 10 5).bind fun q138 =>
  (ai q138 x1 M).bind fun x140 =>
  (gr x0 10 24).bind fun q142 =>
  (az q142 ((10 * x1) + x2) M).bind fun x144 =>
  if x144 = 0 then
    some (0, M)
  else
    if 5 < x2 then
      some (0, M)
    else
      bd (f_Mo_takes x140 M) fun x150 M148 =>
      if x150 ≤ x2 then
        bd (f_Mo_takes x140 M148) fun x154 M152 =>
        bd (f_Mo_puts x140 M152) fun x157 M155 =>
        bd (f_Mo_goesOn x140 M155) fun x160 M158 =>
        if x160 = 0 then
          j_Mo_follow_72 x0 x1 x140 ((x2 - x154) + x157) M158
        else
          (ck x0 10).bind fun _ =>
          bd (f_Mo_reach x0 (x1 + 1) ((x2 - x154) + x157) M158) fun x165 M163 =>
          if x165 = 0 then
            j_Mo_follow_72 x0 x1 x140 ((x2 - x154) + x157) M163
          else
            j_Mo_follow_73 x0 x1 x140 ((x2 - x154) + x157) 1 M163
      else
        some (0, M148)
set_option maxHeartbeats 4000000 in
set_option maxRecDepth 100000 in
theorem w_Mo_follow_174 {p : Program} {l : Launch} {e : Env} {s : State} {m : MethodId} {args : Array Value} {below : List Frame} {meth : Method} {c : Code} {G : fm_G} (C0 : fm_C p s m args meth c G (.code y_Mo_follow b_Mo_follow 8 (some .boolean)) "AllocationProfilerModel" b_Mo_follow 8 (some .boolean)) {v : Int32} {M' : fm_M} (k103 : Nat → Int32 → Int32 → Int32 → fm_M → Option (Int32 × fm_M)) (hk103 : ∀ (x0 : Nat) (x1 : Int32) (x5 : Int32) (x6 : Int32) {M : fm_M} {H : Heap} {locs : List Loc}, kP G M H → kS G s H locs → ∀ {ls : Array Slot}, lv_has ls 8 [(0, .ref (G.2.2 + x0)), (1, .int x1), (5, .int x5), (6, .int x6)] → k103 x0 x1 x5 x6 M = some (v, M') → W p l e rm_Mo_follow s m args below meth c H locs 0 0 (MQ below (fm_Q G 212 shF (some (.int v)) M') args s 0 0 (fm_A G.2.2)) (F0 m 103 ls [])) (x0 : Nat) (x1 : Int32) (x5 : Int32) (x6 : Int32) {M : fm_M} {H : Heap} {locs : List Loc} (hP : kP G M H) (hS : kS G s H locs) {ls : Array Slot} (hl : lv_has ls 8 [(0, .ref (G.2.2 + x0)), (1, .int x1), (5, .int x5), (6, .int x6)]) (h : j_Mo_follow_174 k103 x0 x1 x5 x6 M = some (v, M')) : W p l e rm_Mo_follow s m args below meth c H locs 0 0 (MQ below (fm_Q G 212 shF (some (.int v)) M') args s 0 0 (fm_A G.2.2)) (F0 m 174 ls []) := by
  have hx := C0.1
  have hb := C0.2.1
  unfold j_Mo_follow_174 at h
  refine lv_iinc (v := (x6 + 1)) (lv' := [(6, .int (x6 + 1)), (0, .ref (G.2.2 + x0)), (1, .int x1), (5, .int x5)]) hx hb d_Mo_follow_174 hl (k := 3) rfl (congrArg (fun z => x6 + z) ic_1) (by decide) rfl (fun ls hl => ?_)
  refine lv_goto (tgt := 103) hx hb d_Mo_follow_177 (by decide) ?_
  exact hk103 x0 x1 x5 (x6 + 1) hP hS (lv_sub hl [1, 2, 3, 0] rfl) h
set_option maxHeartbeats 4000000 in
set_option maxRecDepth 100000 in
theorem w_Mo_follow_145 {p : Program} {l : Launch} {e : Env} {s : State} {m : MethodId} {args : Array Value} {below : List Frame} {meth : Method} {c : Code} {G : fm_G} (C0 : fm_C p s m args meth c G (.code y_Mo_follow b_Mo_follow 8 (some .boolean)) "AllocationProfilerModel" b_Mo_follow 8 (some .boolean)) {v : Int32} {M' : fm_M} (k103 : Nat → Int32 → Int32 → Int32 → fm_M → Option (Int32 × fm_M)) (hk103 : ∀ (x0 : Nat) (x1 : Int32) (x5 : Int32) (x6 : Int32) {M : fm_M} {H : Heap} {locs : List Loc}, kP G M H → kS G s H locs → ∀ {ls : Array Slot}, lv_has ls 8 [(0, .ref (G.2.2 + x0)), (1, .int x1), (5, .int x5), (6, .int x6)] → k103 x0 x1 x5 x6 M = some (v, M') → W p l e rm_Mo_follow s m args below meth c H locs 0 0 (MQ below (fm_Q G 212 shF (some (.int v)) M') args s 0 0 (fm_A G.2.2)) (F0 m 103 ls [])) (x0 : Nat) (x1 : Int32) (x5 : Int32) (x6 : Int32) (s0 : Int32) {M : fm_M} {H : Heap} {locs : List Loc} (hP : kP G M H) (hS : kS G s H locs) {ls : Array Slot} (hl : lv_has ls 8 [(0, .ref (G.2.2 + x0)), (1, .int x1), (5, .int x5), (6, .int x6)]) (h : j_Mo_follow_145 k103 x0 x1 x5 x6 s0 M = some (v, M')) : W p l e rm_Mo_follow s m args below meth c H locs 0 0 (MQ below (fm_Q G 212 shF (some (.int v)) M') args s 0 0 (fm_A G.2.2)) (F0 m 145 ls [.int s0]) := by
  have hx := C0.1
  have hb := C0.2.1
  unfold j_Mo_follow_145 at h
  refine lv_istore (lv' := [(7, .int s0), (0, .ref (G.2.2 + x0)), (1, .int x1), (5, .int x5), (6, .int x6)]) hx hb d_Mo_follow_145 hl (by decide) rfl (fun ls hl => ?_)
  refine lv_iload hx hb d_Mo_follow_147 (lv_at hl 0 rfl) ?_
  refine lv_if_eq (tgt := 174) hx hb d_Mo_follow_149 (by decide) (fun c101 => ?_) (fun c101 => ?_)
  · rw [if_pos c101] at h
    exact w_Mo_follow_174 C0 k103 hk103 x0 x1 x5 x6 hP hS (lv_sub hl [1, 2, 3, 4] rfl) h
  · rw [if_neg c101] at h
    refine lv_aload_n hx hb d_Mo_follow_152 rfl (lv_at hl 1 rfl) ?_
    refine lv_aload_n hx hb d_Mo_follow_153 rfl (lv_at hl 1 rfl) ?_
    obtain ⟨q102, e103, h⟩ := ob h
    refine k_gr C0 F_Mo_22 hP e103 d_Mo_follow_154 ?_
    refine lv_iconst (v := 3) hx hb d_Mo_follow_157 ic_3 ?_
    refine lv_iload hx hb d_Mo_follow_158 (lv_at hl 4 rfl) ?_
    refine lv_imul hx hb d_Mo_follow_160 ?_
    refine lv_iconst (v := 2) hx hb d_Mo_follow_161 ic_2 ?_
    refine lv_iadd hx hb d_Mo_follow_162 ?_
    obtain ⟨x104, e105, h⟩ := ob h
    refine k_ai C0 hP e105 d_Mo_follow_163 ?_
    refine lv_iconst (v := 1) hx hb d_Mo_follow_164 ic_1 ?_
    obtain ⟨_, e106, h⟩ := ob h
    obtain ⟨x109, M107, e108, h⟩ := ob2 h
    refine k_cV C0 L_Mo_166 (As := [.int x104, .int 1]) (c_Mo_reach l G x0 x104 1 e108) ⟨rfl, rfl⟩ ⟨Nat.le_of_ble_eq_true rfl, Nat.le_of_ble_eq_true rfl⟩ hP hS (ck_of e106) ly_Mo rfl hl.1 rfl (Nat.le_of_ble_eq_true rfl) d_Mo_follow_165 ⟨Nat.zero_le _, Nat.zero_le _⟩ (fun H locs hP hS => ?_)
    refine lv_if_eq (tgt := 174) hx hb d_Mo_follow_168 (by decide) (fun c110 => ?_) (fun c110 => ?_)
    · rw [if_pos c110] at h
      exact w_Mo_follow_174 C0 k103 hk103 x0 x1 x5 x6 hP hS (lv_sub hl [1, 2, 3, 4] rfl) h
    · rw [if_neg c110] at h
      refine lv_iconst (v := 1) hx hb d_Mo_follow_171 ic_1 ?_
      refine lv_istore (lv' := [(5, .int 1), (7, .int s0), (0, .ref (G.2.2 + x0)), (1, .int x1), (6, .int x6)]) hx hb d_Mo_follow_172 hl (by decide) rfl (fun ls hl => ?_)
      exact w_Mo_follow_174 C0 k103 hk103 x0 x1 1 x6 hP hS (lv_sub hl [2, 3, 0, 4] rfl) h
set_option maxHeartbeats 4000000 in
set_option maxRecDepth 100000 in
theorem w_Mo_follow_144 {p : Program} {l : Launch} {e : Env} {s : State} {m : MethodId} {args : Array Value} {below : List Frame} {meth : Method} {c : Code} {G : fm_G} (C0 : fm_C p s m args meth c G (.code y_Mo_follow b_Mo_follow 8 (some .boolean)) "AllocationProfilerModel" b_Mo_follow 8 (some .boolean)) {v : Int32} {M' : fm_M} (k103 : Nat → Int32 → Int32 → Int32 → fm_M → Option (Int32 × fm_M)) (hk103 : ∀ (x0 : Nat) (x1 : Int32) (x5 : Int32) (x6 : Int32) {M : fm_M} {H : Heap} {locs : List Loc}, kP G M H → kS G s H locs → ∀ {ls : Array Slot}, lv_has ls 8 [(0, .ref (G.2.2 + x0)), (1, .int x1), (5, .int x5), (6, .int x6)] → k103 x0 x1 x5 x6 M = some (v, M') → W p l e rm_Mo_follow s m args below meth c H locs 0 0 (MQ below (fm_Q G 212 shF (some (.int v)) M') args s 0 0 (fm_A G.2.2)) (F0 m 103 ls [])) (x0 : Nat) (x1 : Int32) (x5 : Int32) (x6 : Int32) {M : fm_M} {H : Heap} {locs : List Loc} (hP : kP G M H) (hS : kS G s H locs) {ls : Array Slot} (hl : lv_has ls 8 [(0, .ref (G.2.2 + x0)), (1, .int x1), (5, .int x5), (6, .int x6)]) (h : j_Mo_follow_144 k103 x0 x1 x5 x6 M = some (v, M')) : W p l e rm_Mo_follow s m args below meth c H locs 0 0 (MQ below (fm_Q G 212 shF (some (.int v)) M') args s 0 0 (fm_A G.2.2)) (F0 m 144 ls []) := by
  have hx := C0.1
  have hb := C0.2.1
  unfold j_Mo_follow_144 at h
  refine lv_iconst (v := 0) hx hb d_Mo_follow_144 ic_0 ?_
  exact w_Mo_follow_145 C0 k103 hk103 x0 x1 x5 x6 0 hP hS (lv_sub hl [0, 1, 2, 3] rfl) h
set_option maxHeartbeats 4000000 in
set_option maxRecDepth 100000 in
theorem w_Mo_follow_103 {p : Program} {l : Launch} {e : Env} {s : State} {m : MethodId} {args : Array Value} {below : List Frame} {meth : Method} {c : Code} {G : fm_G} (C0 : fm_C p s m args meth c G (.code y_Mo_follow b_Mo_follow 8 (some .boolean)) "AllocationProfilerModel" b_Mo_follow 8 (some .boolean)) {v : Int32} {M' : fm_M} : ∀ (n : Nat) (x0 : Nat) (x1 : Int32) (x5 : Int32) (x6 : Int32) {M : fm_M} {H : Heap} {locs : List Loc}, kP G M H → kS G s H locs → ∀ {ls : Array Slot}, lv_has ls 8 [(0, .ref (G.2.2 + x0)), (1, .int x1), (5, .int x5), (6, .int x6)] → h_Mo_follow_103 n x0 x1 x5 x6 M = some (v, M') → W p l e rm_Mo_follow s m args below meth c H locs 0 0 (MQ below (fm_Q G 212 shF (some (.int v)) M') args s 0 0 (fm_A G.2.2)) (F0 m 103 ls []) := by
  have hx := C0.1
  have hb := C0.2.1
  intro n
  induction n with
  | zero =>
    intro x0 x1 x5 x6 M H locs hP hS ls hl h
    exact nomatch h
  | succ n ih =>
    intro x0 x1 x5 x6 M H locs hP hS ls hl h
    have h : ((gi x0 10 7 M).bind fun x111 =>
      if x111 ≤ x6 then
        (bz x5).bind fun _ =>
        some (x5, M)
      else
        (gr x0 10 8).bind fun q115 =>
        (ai q115 (3 * x6) M).bind fun x117 =>
        if x1 < x117 then
          j_Mo_follow_144 (h_Mo_follow_103 n) x0 x1 x5 x6 M
        else
          (gr x0 10 8).bind fun q120 =>
          (ai q120 ((3 * x6) + 1) M).bind fun x122 =>
          if x122 ≤ x1 then
            j_Mo_follow_144 (h_Mo_follow_103 n) x0 x1 x5 x6 M
          else
            j_Mo_follow_145 (h_Mo_follow_103 n) x0 x1 x5 x6 1 M) = some (v, M') := h
    refine lv_iload hx hb d_Mo_follow_103 (lv_at hl 3 rfl) ?_
    refine lv_aload_n hx hb d_Mo_follow_105 rfl (lv_at hl 0 rfl) ?_
    obtain ⟨x111, e112, h⟩ := ob h
    refine k_gi C0 F_Mo_147 ik_10_7 hP e112 d_Mo_follow_106 ?_
    refine lv_icmp_ge (tgt := 180) hx hb d_Mo_follow_109 (by decide) (fun c113 => ?_) (fun c113 => ?_)
    · rw [if_pos c113] at h
      refine lv_iload hx hb d_Mo_follow_180 (lv_at hl 2 rfl) ?_
      obtain ⟨_, e114, h⟩ := ob h
      cases h
      exact r_zret C0 hP hS (bz_of e114) d_Mo_follow_182
    · rw [if_neg c113] at h
      refine lv_iload_n hx hb d_Mo_follow_112 rfl (lv_at hl 1 rfl) ?_
      refine lv_aload_n hx hb d_Mo_follow_113 rfl (lv_at hl 0 rfl) ?_
      obtain ⟨q115, e116, h⟩ := ob h
      refine k_gr C0 F_Mo_22 hP e116 d_Mo_follow_114 ?_
      refine lv_iconst (v := 3) hx hb d_Mo_follow_117 ic_3 ?_
      refine lv_iload hx hb d_Mo_follow_118 (lv_at hl 3 rfl) ?_
      refine lv_imul hx hb d_Mo_follow_120 ?_
      obtain ⟨x117, e118, h⟩ := ob h
      refine k_ai C0 hP e118 d_Mo_follow_121 ?_
      refine lv_icmp_lt (tgt := 144) hx hb d_Mo_follow_122 (by decide) (fun c119 => ?_) (fun c119 => ?_)
      · rw [if_pos c119] at h
        exact w_Mo_follow_144 C0 (h_Mo_follow_103 n) ih x0 x1 x5 x6 hP hS (lv_sub hl [0, 1, 2, 3] rfl) h
      · rw [if_neg c119] at h
        refine lv_iload_n hx hb d_Mo_follow_125 rfl (lv_at hl 1 rfl) ?_
        refine lv_aload_n hx hb d_Mo_follow_126 rfl (lv_at hl 0 rfl) ?_
        obtain ⟨q120, e121, h⟩ := ob h
        refine k_gr C0 F_Mo_22 hP e121 d_Mo_follow_127 ?_
        refine lv_iconst (v := 3) hx hb d_Mo_follow_130 ic_3 ?_
        refine lv_iload hx hb d_Mo_follow_131 (lv_at hl 3 rfl) ?_
        refine lv_imul hx hb d_Mo_follow_133 ?_
        refine lv_iconst (v := 1) hx hb d_Mo_follow_134 ic_1 ?_
        refine lv_iadd hx hb d_Mo_follow_135 ?_
        obtain ⟨x122, e123, h⟩ := ob h
        refine k_ai C0 hP e123 d_Mo_follow_136 ?_
        refine lv_icmp_ge (tgt := 144) hx hb d_Mo_follow_137 (by decide) (fun c124 => ?_) (fun c124 => ?_)
        · rw [if_pos c124] at h
          exact w_Mo_follow_144 C0 (h_Mo_follow_103 n) ih x0 x1 x5 x6 hP hS (lv_sub hl [0, 1, 2, 3] rfl) h
        · rw [if_neg c124] at h
          refine lv_iconst (v := 1) hx hb d_Mo_follow_140 ic_1 ?_
          refine lv_goto (tgt := 145) hx hb d_Mo_follow_141 (by decide) ?_
          exact w_Mo_follow_145 C0 (h_Mo_follow_103 n) ih x0 x1 x5 x6 1 hP hS (lv_sub hl [0, 1, 2, 3] rfl) h
set_option maxHeartbeats 4000000 in
set_option maxRecDepth 100000 in
theorem w_Mo_follow_100 {p : Program} {l : Launch} {e : Env} {s : State} {m : MethodId} {args : Array Value} {below : List Frame} {meth : Method} {c : Code} {G : fm_G} (C0 : fm_C p s m args meth c G (.code y_Mo_follow b_Mo_follow 8 (some .boolean)) "AllocationProfilerModel" b_Mo_follow 8 (some .boolean)) {v : Int32} {M' : fm_M} (x0 : Nat) (x1 : Int32) (x5 : Int32) {M : fm_M} {H : Heap} {locs : List Loc} (hP : kP G M H) (hS : kS G s H locs) {ls : Array Slot} (hl : lv_has ls 8 [(0, .ref (G.2.2 + x0)), (1, .int x1), (5, .int x5)]) (h : j_Mo_follow_100 x0 x1 x5 M = some (v, M')) : W p l e rm_Mo_follow s m args below meth c H locs 0 0 (MQ below (fm_Q G 212 shF (some (.int v)) M') args s 0 0 (fm_A G.2.2)) (F0 m 100 ls []) := by
  have hx := C0.1
  have hb := C0.2.1
  unfold j_Mo_follow_100 at h
  refine lv_iconst (v := 0) hx hb d_Mo_follow_100 ic_0 ?_
  refine lv_istore (lv' := [(6, .int 0), (0, .ref (G.2.2 + x0)), (1, .int x1), (5, .int x5)]) hx hb d_Mo_follow_101 hl (by decide) rfl (fun ls hl => ?_)
  exact w_Mo_follow_103 C0 100000 x0 x1 x5 0 hP hS (lv_sub hl [1, 2, 3, 0] rfl) h
set_option maxHeartbeats 4000000 in
set_option maxRecDepth 100000 in
theorem w_Mo_follow_73 {p : Program} {l : Launch} {e : Env} {s : State} {m : MethodId} {args : Array Value} {below : List Frame} {meth : Method} {c : Code} {G : fm_G} (C0 : fm_C p s m args meth c G (.code y_Mo_follow b_Mo_follow 8 (some .boolean)) "AllocationProfilerModel" b_Mo_follow 8 (some .boolean)) {v : Int32} {M' : fm_M} (x0 : Nat) (x1 : Int32) (x3 : Int32) (x4 : Int32) (s0 : Int32) {M : fm_M} {H : Heap} {locs : List Loc} (hP : kP G M H) (hS : kS G s H locs) {ls : Array Slot} (hl : lv_has ls 8 [(0, .ref (G.2.2 + x0)), (1, .int x1), (3, .int x3), (4, .int x4)]) (h : j_Mo_follow_73 x0 x1 x3 x4 s0 M = some (v, M')) : W p l e rm_Mo_follow s m args below meth c H locs 0 0 (MQ below (fm_Q G 212 shF (some (.int v)) M') args s 0 0 (fm_A G.2.2)) (F0 m 73 ls [.int s0]) := by
  have hx := C0.1
  have hb := C0.2.1
  unfold j_Mo_follow_73 at h
  refine lv_istore (lv' := [(5, .int s0), (0, .ref (G.2.2 + x0)), (1, .int x1), (3, .int x3), (4, .int x4)]) hx hb d_Mo_follow_73 hl (by decide) rfl (fun ls hl => ?_)
  refine lv_iload_n hx hb d_Mo_follow_75 rfl (lv_at hl 3 rfl) ?_
  obtain ⟨x127, M125, e126, h⟩ := ob2 h
  refine k_cS C0 L_Mo_150 (As := [.int x3]) (c_Mo_jumps l G x3 e126) ⟨rfl, rfl⟩ ⟨Nat.le_of_ble_eq_true rfl, Nat.le_of_ble_eq_true rfl⟩ hP hS rfl hl.1 rfl (Nat.le_of_ble_eq_true rfl) d_Mo_follow_76 ⟨Nat.zero_le _, Nat.zero_le _⟩ (fun H locs hP hS => ?_)
  refine lv_if_eq (tgt := 100) hx hb d_Mo_follow_79 (by decide) (fun c128 => ?_) (fun c128 => ?_)
  · rw [if_pos c128] at h
    exact w_Mo_follow_100 C0 x0 x1 s0 hP hS (lv_sub hl [1, 2, 0] rfl) h
  · rw [if_neg c128] at h
    refine lv_aload_n hx hb d_Mo_follow_82 rfl (lv_at hl 1 rfl) ?_
    refine lv_aload_n hx hb d_Mo_follow_83 rfl (lv_at hl 1 rfl) ?_
    obtain ⟨q129, e130, h⟩ := ob h
    refine k_gr C0 F_Mo_19 hP e130 d_Mo_follow_84 ?_
    refine lv_iload_n hx hb d_Mo_follow_87 rfl (lv_at hl 2 rfl) ?_
    obtain ⟨x131, e132, h⟩ := ob h
    refine k_ai C0 hP e132 d_Mo_follow_88 ?_
    refine lv_iload hx hb d_Mo_follow_89 (lv_at hl 4 rfl) ?_
    obtain ⟨_, e133, h⟩ := ob h
    obtain ⟨x136, M134, e135, h⟩ := ob2 h
    refine k_cV C0 L_Mo_166 (As := [.int x131, .int x4]) (c_Mo_reach l G x0 x131 x4 e135) ⟨rfl, rfl⟩ ⟨Nat.le_of_ble_eq_true rfl, Nat.le_of_ble_eq_true rfl⟩ hP hS (ck_of e133) ly_Mo rfl hl.1 rfl (Nat.le_of_ble_eq_true rfl) d_Mo_follow_91 ⟨Nat.zero_le _, Nat.zero_le _⟩ (fun H locs hP hS => ?_)
    refine lv_if_eq (tgt := 100) hx hb d_Mo_follow_94 (by decide) (fun c137 => ?_) (fun c137 => ?_)
    · rw [if_pos c137] at h
      exact w_Mo_follow_100 C0 x0 x1 s0 hP hS (lv_sub hl [1, 2, 0] rfl) h
    · rw [if_neg c137] at h
      refine lv_iconst (v := 1) hx hb d_Mo_follow_97 ic_1 ?_
      refine lv_istore (lv' := [(5, .int 1), (0, .ref (G.2.2 + x0)), (1, .int x1), (3, .int x3), (4, .int x4)]) hx hb d_Mo_follow_98 hl (by decide) rfl (fun ls hl => ?_)
      exact w_Mo_follow_100 C0 x0 x1 1 hP hS (lv_sub hl [1, 2, 0] rfl) h
set_option maxHeartbeats 4000000 in
set_option maxRecDepth 100000 in
theorem w_Mo_follow_72 {p : Program} {l : Launch} {e : Env} {s : State} {m : MethodId} {args : Array Value} {below : List Frame} {meth : Method} {c : Code} {G : fm_G} (C0 : fm_C p s m args meth c G (.code y_Mo_follow b_Mo_follow 8 (some .boolean)) "AllocationProfilerModel" b_Mo_follow 8 (some .boolean)) {v : Int32} {M' : fm_M} (x0 : Nat) (x1 : Int32) (x3 : Int32) (x4 : Int32) {M : fm_M} {H : Heap} {locs : List Loc} (hP : kP G M H) (hS : kS G s H locs) {ls : Array Slot} (hl : lv_has ls 8 [(0, .ref (G.2.2 + x0)), (1, .int x1), (3, .int x3), (4, .int x4)]) (h : j_Mo_follow_72 x0 x1 x3 x4 M = some (v, M')) : W p l e rm_Mo_follow s m args below meth c H locs 0 0 (MQ below (fm_Q G 212 shF (some (.int v)) M') args s 0 0 (fm_A G.2.2)) (F0 m 72 ls []) := by
  have hx := C0.1
  have hb := C0.2.1
  unfold j_Mo_follow_72 at h
  refine lv_iconst (v := 0) hx hb d_Mo_follow_72 ic_0 ?_
  exact w_Mo_follow_73 C0 x0 x1 x3 x4 0 hP hS (lv_sub hl [0, 1, 2, 3] rfl) h
set_option maxHeartbeats 4000000 in
set_option maxRecDepth 100000 in
theorem c_Mo_follow (l : Launch) (G : fm_G) (x0 : Nat) (x1 : Int32) (x2 : Int32) {v : Int32} {M M' : fm_M} (h : f_Mo_follow x0 x1 x2 M = some (v, M')) : kMet l y_Mo_follow b_Mo_follow 8 (some .boolean) rm_Mo_follow G M [.ref (G.2.2 + x0), .int x1, .int x2] (some (.int v)) M' := by
  refine r_met (by decide) rfl (Nat.le_of_ble_eq_true rfl) (fun p e s m args below meth c C0 hP ls hl => ?_)
  have hx := C0.1
  have hb := C0.2.1
  have hl : lv_has ls 8 [(0, .ref (G.2.2 + x0)), (1, .int x1), (2, .int x2)] := hl
  have hS : va_S (fm_A G.2.2) s.heap s.heap [] := va_S.rf
  unfold f_Mo_follow at h
  refine lv_aload_n hx hb d_Mo_follow_0 rfl (lv_at hl 0 rfl) ?_
  obtain ⟨q138, e139, h⟩ := ob h
  refine k_gr C0 F_Mo_16 hP e139 d_Mo_follow_1 ?_
  refine lv_iload_n hx hb d_Mo_follow_4 rfl (lv_at hl 1 rfl) ?_
  obtain ⟨x140, e141, h⟩ := ob h
  refine k_ai C0 hP e141 d_Mo_follow_5 ?_
  refine lv_istore_n (lv' := [(3, .int x140), (0, .ref (G.2.2 + x0)), (1, .int x1), (2, .int x2)]) hx hb d_Mo_follow_6 rfl hl (by decide) rfl (fun ls hl => ?_)
  refine lv_aload_n hx hb d_Mo_follow_7 rfl (lv_at hl 1 rfl) ?_
  obtain ⟨q142, e143, h⟩ := ob h
  refine k_gr C0 F_Mo_63 hP e143 d_Mo_follow_8 ?_
  refine lv_bipush (v := 10) hx hb d_Mo_follow_11 bp_10 ?_
  refine lv_iload_n hx hb d_Mo_follow_13 rfl (lv_at hl 2 rfl) ?_
  refine lv_imul hx hb d_Mo_follow_14 ?_
  refine lv_iload_n hx hb d_Mo_follow_15 rfl (lv_at hl 3 rfl) ?_
  refine lv_iadd hx hb d_Mo_follow_16 ?_
  obtain ⟨x144, e145, h⟩ := ob h
  refine k_az C0 hP e145 d_Mo_follow_17 ?_
  refine lv_if_eq (tgt := 34) hx hb d_Mo_follow_18 (by decide) (fun c146 => ?_) (fun c146 => ?_)
  · rw [if_pos c146] at h
    refine lv_iconst (v := 0) hx hb d_Mo_follow_34 ic_0 ?_
    cases h
    exact r_zret C0 hP hS (Or.inl rfl) d_Mo_follow_35
  · rw [if_neg c146] at h
    refine lv_iload_n hx hb d_Mo_follow_21 rfl (lv_at hl 3 rfl) ?_
    refine lv_iconst (v := 5) hx hb d_Mo_follow_22 ic_5 ?_
    refine lv_icmp_gt (tgt := 34) hx hb d_Mo_follow_23 (by decide) (fun c147 => ?_) (fun c147 => ?_)
    · rw [if_pos c147] at h
      refine lv_iconst (v := 0) hx hb d_Mo_follow_34 ic_0 ?_
      cases h
      exact r_zret C0 hP hS (Or.inl rfl) d_Mo_follow_35
    · rw [if_neg c147] at h
      refine lv_iload_n hx hb d_Mo_follow_26 rfl (lv_at hl 3 rfl) ?_
      refine lv_iload_n hx hb d_Mo_follow_27 rfl (lv_at hl 0 rfl) ?_
      obtain ⟨x150, M148, e149, h⟩ := ob2 h
      refine k_cS C0 L_Mo_157 (As := [.int x140]) (c_Mo_takes l G x140 e149) ⟨rfl, rfl⟩ ⟨Nat.le_of_ble_eq_true rfl, Nat.le_of_ble_eq_true rfl⟩ hP hS rfl hl.1 rfl (Nat.le_of_ble_eq_true rfl) d_Mo_follow_28 ⟨Nat.zero_le _, Nat.zero_le _⟩ (fun H locs hP hS => ?_)
      refine lv_icmp_ge (tgt := 36) hx hb d_Mo_follow_31 (by decide) (fun c151 => ?_) (fun c151 => ?_)
      · rw [if_pos c151] at h
        refine lv_iload_n hx hb d_Mo_follow_36 rfl (lv_at hl 3 rfl) ?_
        refine lv_iload_n hx hb d_Mo_follow_37 rfl (lv_at hl 0 rfl) ?_
        obtain ⟨x154, M152, e153, h⟩ := ob2 h
        refine k_cS C0 L_Mo_157 (As := [.int x140]) (c_Mo_takes l G x140 e153) ⟨rfl, rfl⟩ ⟨Nat.le_of_ble_eq_true rfl, Nat.le_of_ble_eq_true rfl⟩ hP hS rfl hl.1 rfl (Nat.le_of_ble_eq_true rfl) d_Mo_follow_38 ⟨Nat.zero_le _, Nat.zero_le _⟩ (fun H locs hP hS => ?_)
        refine lv_isub hx hb d_Mo_follow_41 ?_
        refine lv_iload_n hx hb d_Mo_follow_42 rfl (lv_at hl 0 rfl) ?_
        obtain ⟨x157, M155, e156, h⟩ := ob2 h
        refine k_cS C0 L_Mo_160 (As := [.int x140]) (c_Mo_puts l G x140 e156) ⟨rfl, rfl⟩ ⟨Nat.le_of_ble_eq_true rfl, Nat.le_of_ble_eq_true rfl⟩ hP hS rfl hl.1 rfl (Nat.le_of_ble_eq_true rfl) d_Mo_follow_43 ⟨Nat.zero_le _, Nat.zero_le _⟩ (fun H locs hP hS => ?_)
        refine lv_iadd hx hb d_Mo_follow_46 ?_
        refine lv_istore (lv' := [(4, .int ((x2 - x154) + x157)), (3, .int x140), (0, .ref (G.2.2 + x0)), (1, .int x1), (2, .int x2)]) hx hb d_Mo_follow_47 hl (by decide) rfl (fun ls hl => ?_)
        refine lv_iload_n hx hb d_Mo_follow_49 rfl (lv_at hl 1 rfl) ?_
        obtain ⟨x160, M158, e159, h⟩ := ob2 h
        refine k_cS C0 L_Mo_163 (As := [.int x140]) (c_Mo_goesOn l G x140 e159) ⟨rfl, rfl⟩ ⟨Nat.le_of_ble_eq_true rfl, Nat.le_of_ble_eq_true rfl⟩ hP hS rfl hl.1 rfl (Nat.le_of_ble_eq_true rfl) d_Mo_follow_50 ⟨Nat.zero_le _, Nat.zero_le _⟩ (fun H locs hP hS => ?_)
        refine lv_if_eq (tgt := 72) hx hb d_Mo_follow_53 (by decide) (fun c161 => ?_) (fun c161 => ?_)
        · rw [if_pos c161] at h
          exact w_Mo_follow_72 C0 x0 x1 x140 ((x2 - x154) + x157) hP hS (lv_sub hl [2, 3, 1, 0] rfl) h
        · rw [if_neg c161] at h
          refine lv_aload_n hx hb d_Mo_follow_56 rfl (lv_at hl 2 rfl) ?_
          refine lv_iload_n hx hb d_Mo_follow_57 rfl (lv_at hl 3 rfl) ?_
          refine lv_iconst (v := 1) hx hb d_Mo_follow_58 ic_1 ?_
          refine lv_iadd hx hb d_Mo_follow_59 ?_
          refine lv_iload hx hb d_Mo_follow_60 (lv_at hl 0 rfl) ?_
          obtain ⟨_, e162, h⟩ := ob h
          obtain ⟨x165, M163, e164, h⟩ := ob2 h
          refine k_cV C0 L_Mo_166 (As := [.int (x1 + 1), .int ((x2 - x154) + x157)]) (c_Mo_reach l G x0 (x1 + 1) ((x2 - x154) + x157) e164) ⟨rfl, rfl⟩ ⟨Nat.le_of_ble_eq_true rfl, Nat.le_of_ble_eq_true rfl⟩ hP hS (ck_of e162) ly_Mo rfl hl.1 rfl (Nat.le_of_ble_eq_true rfl) d_Mo_follow_62 ⟨Nat.zero_le _, Nat.zero_le _⟩ (fun H locs hP hS => ?_)
          refine lv_if_eq (tgt := 72) hx hb d_Mo_follow_65 (by decide) (fun c166 => ?_) (fun c166 => ?_)
          · rw [if_pos c166] at h
            exact w_Mo_follow_72 C0 x0 x1 x140 ((x2 - x154) + x157) hP hS (lv_sub hl [2, 3, 1, 0] rfl) h
          · rw [if_neg c166] at h
            refine lv_iconst (v := 1) hx hb d_Mo_follow_68 ic_1 ?_
            refine lv_goto (tgt := 73) hx hb d_Mo_follow_69 (by decide) ?_
            exact w_Mo_follow_73 C0 x0 x1 x140 ((x2 - x154) + x157) 1 hP hS (lv_sub hl [2, 3, 1, 0] rfl) h
      · rw [if_neg c151] at h
        refine lv_iconst (v := 0) hx hb d_Mo_follow_34 ic_0 ?_
        cases h
        exact r_zret C0 hP hS (Or.inl rfl) d_Mo_follow_35
/-! AllocationProfilerModel.badDepth -/
def rm_Mo_badDepth : Room := { frames := 2, cells := 0, slots := 0, locals := 49 }
theorem d_Mo_badDepth_0 : decode b_Mo_badDepth 0 = .ok (.iconst 0, 1) := by decide +kernel
theorem d_Mo_badDepth_1 : decode b_Mo_badDepth 1 = .ok (.istore_n 1, 1) := by decide +kernel
theorem d_Mo_badDepth_2 : decode b_Mo_badDepth 2 = .ok (.iload_n 1, 1) := by decide +kernel
theorem d_Mo_badDepth_3 : decode b_Mo_badDepth 3 = .ok (.sipush 250, 3) := by decide +kernel
theorem d_Mo_badDepth_6 : decode b_Mo_badDepth 6 = .ok (.if_icmp .ge 16, 3) := by decide +kernel
theorem d_Mo_badDepth_9 : decode b_Mo_badDepth 9 = .ok (.aload_n 0, 1) := by decide +kernel
theorem d_Mo_badDepth_10 : decode b_Mo_badDepth 10 = .ok (.getfield 63, 3) := by decide +kernel
theorem d_Mo_badDepth_13 : decode b_Mo_badDepth 13 = .ok (.iload_n 1, 1) := by decide +kernel
theorem d_Mo_badDepth_14 : decode b_Mo_badDepth 14 = .ok (.iconst 0, 1) := by decide +kernel
theorem d_Mo_badDepth_15 : decode b_Mo_badDepth 15 = .ok (.bastore, 1) := by decide +kernel
theorem d_Mo_badDepth_16 : decode b_Mo_badDepth 16 = .ok (.iinc 1 1, 3) := by decide +kernel
theorem d_Mo_badDepth_19 : decode b_Mo_badDepth 19 = .ok (.goto (-17), 3) := by decide +kernel
theorem d_Mo_badDepth_22 : decode b_Mo_badDepth 22 = .ok (.aload_n 0, 1) := by decide +kernel
theorem d_Mo_badDepth_23 : decode b_Mo_badDepth 23 = .ok (.getfield 63, 3) := by decide +kernel
theorem d_Mo_badDepth_26 : decode b_Mo_badDepth 26 = .ok (.iconst 0, 1) := by decide +kernel
theorem d_Mo_badDepth_27 : decode b_Mo_badDepth 27 = .ok (.iconst 1, 1) := by decide +kernel
theorem d_Mo_badDepth_28 : decode b_Mo_badDepth 28 = .ok (.bastore, 1) := by decide +kernel
theorem d_Mo_badDepth_29 : decode b_Mo_badDepth 29 = .ok (.iconst 1, 1) := by decide +kernel
theorem d_Mo_badDepth_30 : decode b_Mo_badDepth 30 = .ok (.istore_n 1, 1) := by decide +kernel
theorem d_Mo_badDepth_31 : decode b_Mo_badDepth 31 = .ok (.iload_n 1, 1) := by decide +kernel
theorem d_Mo_badDepth_32 : decode b_Mo_badDepth 32 = .ok (.ifCond .eq 44, 3) := by decide +kernel
theorem d_Mo_badDepth_35 : decode b_Mo_badDepth 35 = .ok (.iconst 0, 1) := by decide +kernel
theorem d_Mo_badDepth_36 : decode b_Mo_badDepth 36 = .ok (.istore_n 1, 1) := by decide +kernel
theorem d_Mo_badDepth_37 : decode b_Mo_badDepth 37 = .ok (.iconst 0, 1) := by decide +kernel
theorem d_Mo_badDepth_38 : decode b_Mo_badDepth 38 = .ok (.istore_n 2, 1) := by decide +kernel
theorem d_Mo_badDepth_39 : decode b_Mo_badDepth 39 = .ok (.iload_n 2, 1) := by decide +kernel
theorem d_Mo_badDepth_40 : decode b_Mo_badDepth 40 = .ok (.bipush 10, 2) := by decide +kernel
theorem d_Mo_badDepth_42 : decode b_Mo_badDepth 42 = .ok (.aload_n 0, 1) := by decide +kernel
theorem d_Mo_badDepth_43 : decode b_Mo_badDepth 43 = .ok (.getfield 144, 3) := by decide +kernel
theorem d_Mo_badDepth_46 : decode b_Mo_badDepth 46 = .ok (.imul, 1) := by decide +kernel
theorem d_Mo_badDepth_47 : decode b_Mo_badDepth 47 = .ok (.if_icmp .ge 26, 3) := by decide +kernel
theorem d_Mo_badDepth_50 : decode b_Mo_badDepth 50 = .ok (.aload_n 0, 1) := by decide +kernel
theorem d_Mo_badDepth_51 : decode b_Mo_badDepth 51 = .ok (.iload_n 2, 1) := by decide +kernel
theorem d_Mo_badDepth_52 : decode b_Mo_badDepth 52 = .ok (.bipush 10, 2) := by decide +kernel
theorem d_Mo_badDepth_54 : decode b_Mo_badDepth 54 = .ok (.idiv, 1) := by decide +kernel
theorem d_Mo_badDepth_55 : decode b_Mo_badDepth 55 = .ok (.iload_n 2, 1) := by decide +kernel
theorem d_Mo_badDepth_56 : decode b_Mo_badDepth 56 = .ok (.bipush 10, 2) := by decide +kernel
theorem d_Mo_badDepth_58 : decode b_Mo_badDepth 58 = .ok (.irem, 1) := by decide +kernel
theorem d_Mo_badDepth_59 : decode b_Mo_badDepth 59 = .ok (.invokevirtual 169, 3) := by decide +kernel
theorem d_Mo_badDepth_62 : decode b_Mo_badDepth 62 = .ok (.ifCond .eq 5, 3) := by decide +kernel
theorem d_Mo_badDepth_65 : decode b_Mo_badDepth 65 = .ok (.iconst 1, 1) := by decide +kernel
theorem d_Mo_badDepth_66 : decode b_Mo_badDepth 66 = .ok (.istore_n 1, 1) := by decide +kernel
theorem d_Mo_badDepth_67 : decode b_Mo_badDepth 67 = .ok (.iinc 2 1, 3) := by decide +kernel
theorem d_Mo_badDepth_70 : decode b_Mo_badDepth 70 = .ok (.goto (-31), 3) := by decide +kernel
theorem d_Mo_badDepth_73 : decode b_Mo_badDepth 73 = .ok (.goto (-42), 3) := by decide +kernel
theorem d_Mo_badDepth_76 : decode b_Mo_badDepth 76 = .ok (.iconst 0, 1) := by decide +kernel
theorem d_Mo_badDepth_77 : decode b_Mo_badDepth 77 = .ok (.istore_n 2, 1) := by decide +kernel
theorem d_Mo_badDepth_78 : decode b_Mo_badDepth 78 = .ok (.iload_n 2, 1) := by decide +kernel
theorem d_Mo_badDepth_79 : decode b_Mo_badDepth 79 = .ok (.aload_n 0, 1) := by decide +kernel
theorem d_Mo_badDepth_80 : decode b_Mo_badDepth 80 = .ok (.getfield 144, 3) := by decide +kernel
theorem d_Mo_badDepth_83 : decode b_Mo_badDepth 83 = .ok (.if_icmp .ge 106, 3) := by decide +kernel
theorem d_Mo_badDepth_86 : decode b_Mo_badDepth 86 = .ok (.iconst 0, 1) := by decide +kernel
theorem d_Mo_badDepth_87 : decode b_Mo_badDepth 87 = .ok (.istore_n 3, 1) := by decide +kernel
theorem d_Mo_badDepth_88 : decode b_Mo_badDepth 88 = .ok (.iconst 0, 1) := by decide +kernel
theorem d_Mo_badDepth_89 : decode b_Mo_badDepth 89 = .ok (.istore 4, 2) := by decide +kernel
theorem d_Mo_badDepth_91 : decode b_Mo_badDepth 91 = .ok (.iconst 0, 1) := by decide +kernel
theorem d_Mo_badDepth_92 : decode b_Mo_badDepth 92 = .ok (.istore 5, 2) := by decide +kernel
theorem d_Mo_badDepth_94 : decode b_Mo_badDepth 94 = .ok (.iload 5, 2) := by decide +kernel
theorem d_Mo_badDepth_96 : decode b_Mo_badDepth 96 = .ok (.bipush 10, 2) := by decide +kernel
theorem d_Mo_badDepth_98 : decode b_Mo_badDepth 98 = .ok (.if_icmp .ge 73, 3) := by decide +kernel
theorem d_Mo_badDepth_101 : decode b_Mo_badDepth 101 = .ok (.aload_n 0, 1) := by decide +kernel
theorem d_Mo_badDepth_102 : decode b_Mo_badDepth 102 = .ok (.getfield 63, 3) := by decide +kernel
theorem d_Mo_badDepth_105 : decode b_Mo_badDepth 105 = .ok (.bipush 10, 2) := by decide +kernel
theorem d_Mo_badDepth_107 : decode b_Mo_badDepth 107 = .ok (.iload_n 2, 1) := by decide +kernel
theorem d_Mo_badDepth_108 : decode b_Mo_badDepth 108 = .ok (.imul, 1) := by decide +kernel
theorem d_Mo_badDepth_109 : decode b_Mo_badDepth 109 = .ok (.iload 5, 2) := by decide +kernel
theorem d_Mo_badDepth_111 : decode b_Mo_badDepth 111 = .ok (.iadd, 1) := by decide +kernel
theorem d_Mo_badDepth_112 : decode b_Mo_badDepth 112 = .ok (.baload, 1) := by decide +kernel
theorem d_Mo_badDepth_113 : decode b_Mo_badDepth 113 = .ok (.istore 6, 2) := by decide +kernel
theorem d_Mo_badDepth_115 : decode b_Mo_badDepth 115 = .ok (.iload 6, 2) := by decide +kernel
theorem d_Mo_badDepth_117 : decode b_Mo_badDepth 117 = .ok (.ifCond .eq 9, 3) := by decide +kernel
theorem d_Mo_badDepth_120 : decode b_Mo_badDepth 120 = .ok (.iload_n 3, 1) := by decide +kernel
theorem d_Mo_badDepth_121 : decode b_Mo_badDepth 121 = .ok (.iconst 1, 1) := by decide +kernel
theorem d_Mo_badDepth_122 : decode b_Mo_badDepth 122 = .ok (.iadd, 1) := by decide +kernel
theorem d_Mo_badDepth_123 : decode b_Mo_badDepth 123 = .ok (.goto 4, 3) := by decide +kernel
theorem d_Mo_badDepth_126 : decode b_Mo_badDepth 126 = .ok (.iload_n 3, 1) := by decide +kernel
theorem d_Mo_badDepth_127 : decode b_Mo_badDepth 127 = .ok (.istore_n 3, 1) := by decide +kernel
theorem d_Mo_badDepth_128 : decode b_Mo_badDepth 128 = .ok (.iload 4, 2) := by decide +kernel
theorem d_Mo_badDepth_130 : decode b_Mo_badDepth 130 = .ok (.ifCond .ne 28, 3) := by decide +kernel
theorem d_Mo_badDepth_133 : decode b_Mo_badDepth 133 = .ok (.iload 6, 2) := by decide +kernel
theorem d_Mo_badDepth_135 : decode b_Mo_badDepth 135 = .ok (.ifCond .eq 27, 3) := by decide +kernel
theorem d_Mo_badDepth_138 : decode b_Mo_badDepth 138 = .ok (.iload 5, 2) := by decide +kernel
theorem d_Mo_badDepth_140 : decode b_Mo_badDepth 140 = .ok (.iconst 5, 1) := by decide +kernel
theorem d_Mo_badDepth_141 : decode b_Mo_badDepth 141 = .ok (.if_icmp .gt 17, 3) := by decide +kernel
theorem d_Mo_badDepth_144 : decode b_Mo_badDepth 144 = .ok (.iload 5, 2) := by decide +kernel
theorem d_Mo_badDepth_146 : decode b_Mo_badDepth 146 = .ok (.aload_n 0, 1) := by decide +kernel
theorem d_Mo_badDepth_147 : decode b_Mo_badDepth 147 = .ok (.getfield 16, 3) := by decide +kernel
theorem d_Mo_badDepth_150 : decode b_Mo_badDepth 150 = .ok (.iload_n 2, 1) := by decide +kernel
theorem d_Mo_badDepth_151 : decode b_Mo_badDepth 151 = .ok (.iaload, 1) := by decide +kernel
theorem d_Mo_badDepth_152 : decode b_Mo_badDepth 152 = .ok (.invokestatic 157, 3) := by decide +kernel
theorem d_Mo_badDepth_155 : decode b_Mo_badDepth 155 = .ok (.if_icmp .ge 7, 3) := by decide +kernel
theorem d_Mo_badDepth_158 : decode b_Mo_badDepth 158 = .ok (.iconst 1, 1) := by decide +kernel
theorem d_Mo_badDepth_159 : decode b_Mo_badDepth 159 = .ok (.goto 4, 3) := by decide +kernel
theorem d_Mo_badDepth_162 : decode b_Mo_badDepth 162 = .ok (.iconst 0, 1) := by decide +kernel
theorem d_Mo_badDepth_163 : decode b_Mo_badDepth 163 = .ok (.istore 4, 2) := by decide +kernel
theorem d_Mo_badDepth_165 : decode b_Mo_badDepth 165 = .ok (.iinc 5 1, 3) := by decide +kernel
theorem d_Mo_badDepth_168 : decode b_Mo_badDepth 168 = .ok (.goto (-74), 3) := by decide +kernel
theorem d_Mo_badDepth_171 : decode b_Mo_badDepth 171 = .ok (.iload 4, 2) := by decide +kernel
theorem d_Mo_badDepth_173 : decode b_Mo_badDepth 173 = .ok (.ifCond .ne 8, 3) := by decide +kernel
theorem d_Mo_badDepth_176 : decode b_Mo_badDepth 176 = .ok (.iload_n 3, 1) := by decide +kernel
theorem d_Mo_badDepth_177 : decode b_Mo_badDepth 177 = .ok (.iconst 1, 1) := by decide +kernel
theorem d_Mo_badDepth_178 : decode b_Mo_badDepth 178 = .ok (.if_icmp .le 5, 3) := by decide +kernel
theorem d_Mo_badDepth_181 : decode b_Mo_badDepth 181 = .ok (.iload_n 2, 1) := by decide +kernel
theorem d_Mo_badDepth_182 : decode b_Mo_badDepth 182 = .ok (.ireturn, 1) := by decide +kernel
theorem d_Mo_badDepth_183 : decode b_Mo_badDepth 183 = .ok (.iinc 2 1, 3) := by decide +kernel
theorem d_Mo_badDepth_186 : decode b_Mo_badDepth 186 = .ok (.goto (-108), 3) := by decide +kernel
theorem d_Mo_badDepth_189 : decode b_Mo_badDepth 189 = .ok (.iconst (-1), 1) := by decide +kernel
theorem d_Mo_badDepth_190 : decode b_Mo_badDepth 190 = .ok (.ireturn, 1) := by decide +kernel
def j_Mo_badDepth_67 (k31 : Nat → Int32 → fm_M → Option (Int32 × fm_M)) (k39 : Nat → Int32 → Int32 → fm_M → Option (Int32 × fm_M)) (x0 : Nat) (x1 : Int32) (x2 : Int32) (M : fm_M) : Option (Int32 × fm_M) :=
  k39 x0 x1 (x2 + 1) M
def h_Mo_badDepth_39 (k31 : Nat → Int32 → fm_M → Option (Int32 × fm_M)) : Nat → Nat → Int32 → Int32 → fm_M → Option (Int32 × fm_M)
  | 0, _, _, _, _ => none
  | n + 1, x0, x1, x2, M =>
    (gi x0 10 4 M).bind fun x101 =>
    if (10 * x101) ≤ x2 then
      k31 x0 x1 M
    else
      (ck x0 10).bind fun _ =>
      bd (f_Mo_follow x0 (x2 / 10) (x2 - x2 / 10 * 10) M) fun x107 M105 =>
      if x107 = 0 then
        j_Mo_badDepth_67 k31 (h_Mo_badDepth_39 k31 n) x0 x1 x2 M105
      else
        j_Mo_badDepth_67 k31 (h_Mo_badDepth_39 k31 n) x0 1 x2 M105
def j_Mo_badDepth_163 (k78 : Nat → Int32 → fm_M → Option (Int32 × fm_M)) (k94 : Nat → Int32 → Int32 → Int32 → Int32 → fm_M → Option (Int32 × fm_M)) (x0 : Nat) (x2 : Int32) (x3 : Int32) (x5 : Int32) (s0 : Int32) (M : fm_M) : Option (Int32 × fm_M) :=
  k94 x0 x2 x3 s0 (x5 + 1) M
def j_Mo_badDepth_158 (k78 : Nat → Int32 → fm_M → Option (Int32 × fm_M)) (k94 : Nat → Int32 → Int32 → Int32 → Int32 → fm_M → Option (Int32 × fm_M)) (x0 : Nat) (x2 : Int32) (x3 : Int32) (x5 : Int32) (M : fm_M) : Option (Int32 × fm_M) :=
  j_Mo_badDepth_163 k78 k94 x0 x2 x3 x5 1 M
def j_Mo_badDepth_162 (k78 : Nat → Int32 → fm_M → Option (Int32 × fm_M)) (k94 : Nat → Int32 → Int32 → Int32 → Int32 → fm_M → Option (Int32 × fm_M)) (x0 : Nat) (x2 : Int32) (x3 : Int32) (x5 : Int32) (M : fm_M) : Option (Int32 × fm_M) :=
  j_Mo_badDepth_163 k78 k94 x0 x2 x3 x5 0 M
def j_Mo_badDepth_127 (k78 : Nat → Int32 → fm_M → Option (Int32 × fm_M)) (k94 : Nat → Int32 → Int32 → Int32 → Int32 → fm_M → Option (Int32 × fm_M)) (x0 : Nat) (x2 : Int32) (x4 : Int32) (x5 : Int32) (x6 : Int32) (s0 : Int32) (M : fm_M) : Option (Int32 × fm_M) :=
  if x4 = 0 then
    if x6 = 0 then
      j_Mo_badDepth_162 k78 k94 x0 x2 s0 x5 M
    else
      if 5 < x5 then
        j_Mo_badDepth_158 k78 k94 x0 x2 s0 x5 M
      else
        (gr x0 10 5).bind fun q112 =>
        (ai q112 x2 M).bind fun x114 =>
        bd (f_Mo_takes x114 M) fun x118 M116 =>
        if x118 ≤ x5 then
          j_Mo_badDepth_162 k78 k94 x0 x2 s0 x5 M116
        else
          j_Mo_badDepth_158 k78 k94 x0 x2 s0 x5 M116
  else
    j_Mo_badDepth_158 k78 k94 x0 x2 s0 x5 M
def h_Mo_badDepth_94 (k78 : Nat → Int32 → fm_M → Option (Int32 × fm_M)) : Nat → Nat → Int32 → Int32 → Int32 → Int32 → fm_M → Option (Int32 × fm_M)
  | 0, _, _, _, _, _, _ => none
  | n + 1, x0, x2, x3, x4, x5, M =>
    if 10 ≤ x5 then
      if x4 = 0 then
        if x3 ≤ 1 then
          k78 x0 (x2 + 1) M
        else
          some (x2, M)
      else
        some (x2, M)
    else
      (gr x0 10 24).bind fun q123 =>
      (az q123 ((10 * x2) + x5) M).bind fun x125 =>
      if x125 = 0 then
        j_Mo_badDepth_127 k78 (h_Mo_badDepth_94 k78 n) x0 x2 x4 x5 x125 x3 M
      else
        j_Mo_badDepth_127 k78 (h_Mo_badDepth_94 k78 n) x0 x2 x4 x5 x125 (x3 + 1) M
def h_Mo_badDepth_78 : Nat → Nat → Int32 → fm_M → Option (Int32 × fm_M)
  | 0, _, _, _ => none
  | n + 1, x0, x2, M =>
    (gi x0 10 4 M).bind fun x128 =>
    if x128 ≤ x2 then
      some ((-1), M)
    else
      h_Mo_badDepth_94 (h_Mo_badDepth_78 n) 100000 x0 x2 0 0 0 M
def h_Mo_badDepth_31 : Nat → Nat → Int32 → fm_M → Option (Int32 × fm_M)
  | 0, _, _, _ => none
  | n + 1, x0, x1, M =>
    if x1 = 0 then
      h_Mo_badDepth_78 100000 x0 0 M
    else
      h_Mo_badDepth_39 (h_Mo_badDepth_31 n) 100000 x0 0 0 M
def h_Mo_badDepth_2 : Nat → Nat → Int32 → fm_M → Option (Int32 × fm_M)
  | 0, _, _, _ => none
  | n + 1, x0, x1, M =>
    if 250 ≤ x1 then
      (gr x0 10 24).bind fun q133 =>
      (sz q133 0 1 M).bind fun M135 =>
      h_Mo_badDepth_31 100000 x0 1 M135
    else
      (gr x0 10 24).bind fun q137 =>
      (sz q137 x1 0 M).bind fun M139 =>
      h_Mo_badDepth_2 n x0 (x1 + 1) M139
def f_Mo_badDepth (x0 : Nat) (M : fm_M) : Option (Int32 × fm_M) :=
  h_Mo_badDepth_2 100000 x0 0 M
set_option maxHeartbeats 4000000 in
set_option maxRecDepth 100000 in
theorem w_Mo_badDepth_67 {p : Program} {l : Launch} {e : Env} {s : State} {m : MethodId} {args : Array Value} {below : List Frame} {meth : Method} {c : Code} {G : fm_G} (C0 : fm_C p s m args meth c G (.code y_Mo_badDepth b_Mo_badDepth 7 (some .int)) "AllocationProfilerModel" b_Mo_badDepth 7 (some .int)) {v : Int32} {M' : fm_M} (k31 : Nat → Int32 → fm_M → Option (Int32 × fm_M)) (hk31 : ∀ (x0 : Nat) (x1 : Int32) {M : fm_M} {H : Heap} {locs : List Loc}, kP G M H → kS G s H locs → ∀ {ls : Array Slot}, lv_has ls 7 [(0, .ref (G.2.2 + x0)), (1, .int x1)] → k31 x0 x1 M = some (v, M') → W p l e rm_Mo_badDepth s m args below meth c H locs 0 0 (MQ below (fm_Q G 212 shF (some (.int v)) M') args s 0 0 (fm_A G.2.2)) (F0 m 31 ls [])) (k39 : Nat → Int32 → Int32 → fm_M → Option (Int32 × fm_M)) (hk39 : ∀ (x0 : Nat) (x1 : Int32) (x2 : Int32) {M : fm_M} {H : Heap} {locs : List Loc}, kP G M H → kS G s H locs → ∀ {ls : Array Slot}, lv_has ls 7 [(0, .ref (G.2.2 + x0)), (1, .int x1), (2, .int x2)] → k39 x0 x1 x2 M = some (v, M') → W p l e rm_Mo_badDepth s m args below meth c H locs 0 0 (MQ below (fm_Q G 212 shF (some (.int v)) M') args s 0 0 (fm_A G.2.2)) (F0 m 39 ls [])) (x0 : Nat) (x1 : Int32) (x2 : Int32) {M : fm_M} {H : Heap} {locs : List Loc} (hP : kP G M H) (hS : kS G s H locs) {ls : Array Slot} (hl : lv_has ls 7 [(0, .ref (G.2.2 + x0)), (1, .int x1), (2, .int x2)]) (h : j_Mo_badDepth_67 k31 k39 x0 x1 x2 M = some (v, M')) : W p l e rm_Mo_badDepth s m args below meth c H locs 0 0 (MQ below (fm_Q G 212 shF (some (.int v)) M') args s 0 0 (fm_A G.2.2)) (F0 m 67 ls []) := by
  have hx := C0.1
  have hb := C0.2.1
  unfold j_Mo_badDepth_67 at h
  refine lv_iinc (v := (x2 + 1)) (lv' := [(2, .int (x2 + 1)), (0, .ref (G.2.2 + x0)), (1, .int x1)]) hx hb d_Mo_badDepth_67 hl (k := 2) rfl (congrArg (fun z => x2 + z) ic_1) (by decide) rfl (fun ls hl => ?_)
  refine lv_goto (tgt := 39) hx hb d_Mo_badDepth_70 (by decide) ?_
  exact hk39 x0 x1 (x2 + 1) hP hS (lv_sub hl [1, 2, 0] rfl) h
set_option maxHeartbeats 4000000 in
set_option maxRecDepth 100000 in
theorem w_Mo_badDepth_39 {p : Program} {l : Launch} {e : Env} {s : State} {m : MethodId} {args : Array Value} {below : List Frame} {meth : Method} {c : Code} {G : fm_G} (C0 : fm_C p s m args meth c G (.code y_Mo_badDepth b_Mo_badDepth 7 (some .int)) "AllocationProfilerModel" b_Mo_badDepth 7 (some .int)) {v : Int32} {M' : fm_M} (k31 : Nat → Int32 → fm_M → Option (Int32 × fm_M)) (hk31 : ∀ (x0 : Nat) (x1 : Int32) {M : fm_M} {H : Heap} {locs : List Loc}, kP G M H → kS G s H locs → ∀ {ls : Array Slot}, lv_has ls 7 [(0, .ref (G.2.2 + x0)), (1, .int x1)] → k31 x0 x1 M = some (v, M') → W p l e rm_Mo_badDepth s m args below meth c H locs 0 0 (MQ below (fm_Q G 212 shF (some (.int v)) M') args s 0 0 (fm_A G.2.2)) (F0 m 31 ls [])) : ∀ (n : Nat) (x0 : Nat) (x1 : Int32) (x2 : Int32) {M : fm_M} {H : Heap} {locs : List Loc}, kP G M H → kS G s H locs → ∀ {ls : Array Slot}, lv_has ls 7 [(0, .ref (G.2.2 + x0)), (1, .int x1), (2, .int x2)] → h_Mo_badDepth_39 k31 n x0 x1 x2 M = some (v, M') → W p l e rm_Mo_badDepth s m args below meth c H locs 0 0 (MQ below (fm_Q G 212 shF (some (.int v)) M') args s 0 0 (fm_A G.2.2)) (F0 m 39 ls []) := by
  have hx := C0.1
  have hb := C0.2.1
  intro n
  induction n with
  | zero =>
    intro x0 x1 x2 M H locs hP hS ls hl h
    exact nomatch h
  | succ n ih =>
    intro x0 x1 x2 M H locs hP hS ls hl h
    have h : ((gi x0 10 4 M).bind fun x101 =>
      if (10 * x101) ≤ x2 then
        k31 x0 x1 M
      else
        (ck x0 10).bind fun _ =>
        bd (f_Mo_follow x0 (x2 / 10) (x2 - x2 / 10 * 10) M) fun x107 M105 =>
        if x107 = 0 then
          j_Mo_badDepth_67 k31 (h_Mo_badDepth_39 k31 n) x0 x1 x2 M105
        else
          j_Mo_badDepth_67 k31 (h_Mo_badDepth_39 k31 n) x0 1 x2 M105) = some (v, M') := h
    refine lv_iload_n hx hb d_Mo_badDepth_39 rfl (lv_at hl 2 rfl) ?_
    refine lv_bipush (v := 10) hx hb d_Mo_badDepth_40 bp_10 ?_
    refine lv_aload_n hx hb d_Mo_badDepth_42 rfl (lv_at hl 0 rfl) ?_
    obtain ⟨x101, e102, h⟩ := ob h
    refine k_gi C0 F_Mo_144 ik_10_4 hP e102 d_Mo_badDepth_43 ?_
    refine lv_imul hx hb d_Mo_badDepth_46 ?_
    refine lv_icmp_ge (tgt := 73) hx hb d_Mo_badDepth_47 (by decide) (fun c103 => ?_) (fun c103 => ?_)
    · rw [if_pos c103] at h
      refine lv_goto (tgt := 31) hx hb d_Mo_badDepth_73 (by decide) ?_
      exact hk31 x0 x1 hP hS (lv_sub hl [0, 1] rfl) h
    · rw [if_neg c103] at h
      refine lv_aload_n hx hb d_Mo_badDepth_50 rfl (lv_at hl 0 rfl) ?_
      refine lv_iload_n hx hb d_Mo_badDepth_51 rfl (lv_at hl 2 rfl) ?_
      refine lv_bipush (v := 10) hx hb d_Mo_badDepth_52 bp_10 ?_
      refine lv_idiv hx hb d_Mo_badDepth_54 (by decide) ?_
      refine lv_iload_n hx hb d_Mo_badDepth_55 rfl (lv_at hl 2 rfl) ?_
      refine lv_bipush (v := 10) hx hb d_Mo_badDepth_56 bp_10 ?_
      refine lv_irem hx hb d_Mo_badDepth_58 (by decide) ?_
      obtain ⟨_, e104, h⟩ := ob h
      obtain ⟨x107, M105, e106, h⟩ := ob2 h
      refine k_cV C0 L_Mo_169 (As := [.int (x2 / 10), .int (x2 - x2 / 10 * 10)]) (c_Mo_follow l G x0 (x2 / 10) (x2 - x2 / 10 * 10) e106) ⟨rfl, rfl⟩ ⟨Nat.le_of_ble_eq_true rfl, Nat.le_of_ble_eq_true rfl⟩ hP hS (ck_of e104) ly_Mo rfl hl.1 rfl (Nat.le_of_ble_eq_true rfl) d_Mo_badDepth_59 ⟨Nat.zero_le _, Nat.zero_le _⟩ (fun H locs hP hS => ?_)
      refine lv_if_eq (tgt := 67) hx hb d_Mo_badDepth_62 (by decide) (fun c108 => ?_) (fun c108 => ?_)
      · rw [if_pos c108] at h
        exact w_Mo_badDepth_67 C0 k31 hk31 (h_Mo_badDepth_39 k31 n) ih x0 x1 x2 hP hS (lv_sub hl [0, 1, 2] rfl) h
      · rw [if_neg c108] at h
        refine lv_iconst (v := 1) hx hb d_Mo_badDepth_65 ic_1 ?_
        refine lv_istore_n (lv' := [(1, .int 1), (0, .ref (G.2.2 + x0)), (2, .int x2)]) hx hb d_Mo_badDepth_66 rfl hl (by decide) rfl (fun ls hl => ?_)
        exact w_Mo_badDepth_67 C0 k31 hk31 (h_Mo_badDepth_39 k31 n) ih x0 1 x2 hP hS (lv_sub hl [1, 0, 2] rfl) h
set_option maxHeartbeats 4000000 in
set_option maxRecDepth 100000 in
theorem w_Mo_badDepth_163 {p : Program} {l : Launch} {e : Env} {s : State} {m : MethodId} {args : Array Value} {below : List Frame} {meth : Method} {c : Code} {G : fm_G} (C0 : fm_C p s m args meth c G (.code y_Mo_badDepth b_Mo_badDepth 7 (some .int)) "AllocationProfilerModel" b_Mo_badDepth 7 (some .int)) {v : Int32} {M' : fm_M} (k78 : Nat → Int32 → fm_M → Option (Int32 × fm_M)) (hk78 : ∀ (x0 : Nat) (x2 : Int32) {M : fm_M} {H : Heap} {locs : List Loc}, kP G M H → kS G s H locs → ∀ {ls : Array Slot}, lv_has ls 7 [(0, .ref (G.2.2 + x0)), (2, .int x2)] → k78 x0 x2 M = some (v, M') → W p l e rm_Mo_badDepth s m args below meth c H locs 0 0 (MQ below (fm_Q G 212 shF (some (.int v)) M') args s 0 0 (fm_A G.2.2)) (F0 m 78 ls [])) (k94 : Nat → Int32 → Int32 → Int32 → Int32 → fm_M → Option (Int32 × fm_M)) (hk94 : ∀ (x0 : Nat) (x2 : Int32) (x3 : Int32) (x4 : Int32) (x5 : Int32) {M : fm_M} {H : Heap} {locs : List Loc}, kP G M H → kS G s H locs → ∀ {ls : Array Slot}, lv_has ls 7 [(0, .ref (G.2.2 + x0)), (2, .int x2), (3, .int x3), (4, .int x4), (5, .int x5)] → k94 x0 x2 x3 x4 x5 M = some (v, M') → W p l e rm_Mo_badDepth s m args below meth c H locs 0 0 (MQ below (fm_Q G 212 shF (some (.int v)) M') args s 0 0 (fm_A G.2.2)) (F0 m 94 ls [])) (x0 : Nat) (x2 : Int32) (x3 : Int32) (x5 : Int32) (s0 : Int32) {M : fm_M} {H : Heap} {locs : List Loc} (hP : kP G M H) (hS : kS G s H locs) {ls : Array Slot} (hl : lv_has ls 7 [(0, .ref (G.2.2 + x0)), (2, .int x2), (3, .int x3), (5, .int x5)]) (h : j_Mo_badDepth_163 k78 k94 x0 x2 x3 x5 s0 M = some (v, M')) : W p l e rm_Mo_badDepth s m args below meth c H locs 0 0 (MQ below (fm_Q G 212 shF (some (.int v)) M') args s 0 0 (fm_A G.2.2)) (F0 m 163 ls [.int s0]) := by
  have hx := C0.1
  have hb := C0.2.1
  unfold j_Mo_badDepth_163 at h
  refine lv_istore (lv' := [(4, .int s0), (0, .ref (G.2.2 + x0)), (2, .int x2), (3, .int x3), (5, .int x5)]) hx hb d_Mo_badDepth_163 hl (by decide) rfl (fun ls hl => ?_)
  refine lv_iinc (v := (x5 + 1)) (lv' := [(5, .int (x5 + 1)), (4, .int s0), (0, .ref (G.2.2 + x0)), (2, .int x2), (3, .int x3)]) hx hb d_Mo_badDepth_165 hl (k := 4) rfl (congrArg (fun z => x5 + z) ic_1) (by decide) rfl (fun ls hl => ?_)
  refine lv_goto (tgt := 94) hx hb d_Mo_badDepth_168 (by decide) ?_
  exact hk94 x0 x2 x3 s0 (x5 + 1) hP hS (lv_sub hl [2, 3, 4, 1, 0] rfl) h
set_option maxHeartbeats 4000000 in
set_option maxRecDepth 100000 in
theorem w_Mo_badDepth_158 {p : Program} {l : Launch} {e : Env} {s : State} {m : MethodId} {args : Array Value} {below : List Frame} {meth : Method} {c : Code} {G : fm_G} (C0 : fm_C p s m args meth c G (.code y_Mo_badDepth b_Mo_badDepth 7 (some .int)) "AllocationProfilerModel" b_Mo_badDepth 7 (some .int)) {v : Int32} {M' : fm_M} (k78 : Nat → Int32 → fm_M → Option (Int32 × fm_M)) (hk78 : ∀ (x0 : Nat) (x2 : Int32) {M : fm_M} {H : Heap} {locs : List Loc}, kP G M H → kS G s H locs → ∀ {ls : Array Slot}, lv_has ls 7 [(0, .ref (G.2.2 + x0)), (2, .int x2)] → k78 x0 x2 M = some (v, M') → W p l e rm_Mo_badDepth s m args below meth c H locs 0 0 (MQ below (fm_Q G 212 shF (some (.int v)) M') args s 0 0 (fm_A G.2.2)) (F0 m 78 ls [])) (k94 : Nat → Int32 → Int32 → Int32 → Int32 → fm_M → Option (Int32 × fm_M)) (hk94 : ∀ (x0 : Nat) (x2 : Int32) (x3 : Int32) (x4 : Int32) (x5 : Int32) {M : fm_M} {H : Heap} {locs : List Loc}, kP G M H → kS G s H locs → ∀ {ls : Array Slot}, lv_has ls 7 [(0, .ref (G.2.2 + x0)), (2, .int x2), (3, .int x3), (4, .int x4), (5, .int x5)] → k94 x0 x2 x3 x4 x5 M = some (v, M') → W p l e rm_Mo_badDepth s m args below meth c H locs 0 0 (MQ below (fm_Q G 212 shF (some (.int v)) M') args s 0 0 (fm_A G.2.2)) (F0 m 94 ls [])) (x0 : Nat) (x2 : Int32) (x3 : Int32) (x5 : Int32) {M : fm_M} {H : Heap} {locs : List Loc} (hP : kP G M H) (hS : kS G s H locs) {ls : Array Slot} (hl : lv_has ls 7 [(0, .ref (G.2.2 + x0)), (2, .int x2), (3, .int x3), (5, .int x5)]) (h : j_Mo_badDepth_158 k78 k94 x0 x2 x3 x5 M = some (v, M')) : W p l e rm_Mo_badDepth s m args below meth c H locs 0 0 (MQ below (fm_Q G 212 shF (some (.int v)) M') args s 0 0 (fm_A G.2.2)) (F0 m 158 ls []) := by
  have hx := C0.1
  have hb := C0.2.1
  unfold j_Mo_badDepth_158 at h
  refine lv_iconst (v := 1) hx hb d_Mo_badDepth_158 ic_1 ?_
  refine lv_goto (tgt := 163) hx hb d_Mo_badDepth_159 (by decide) ?_
  exact w_Mo_badDepth_163 C0 k78 hk78 k94 hk94 x0 x2 x3 x5 1 hP hS (lv_sub hl [0, 1, 2, 3] rfl) h
set_option maxHeartbeats 4000000 in
set_option maxRecDepth 100000 in
theorem w_Mo_badDepth_162 {p : Program} {l : Launch} {e : Env} {s : State} {m : MethodId} {args : Array Value} {below : List Frame} {meth : Method} {c : Code} {G : fm_G} (C0 : fm_C p s m args meth c G (.code y_Mo_badDepth b_Mo_badDepth 7 (some .int)) "AllocationProfilerModel" b_Mo_badDepth 7 (some .int)) {v : Int32} {M' : fm_M} (k78 : Nat → Int32 → fm_M → Option (Int32 × fm_M)) (hk78 : ∀ (x0 : Nat) (x2 : Int32) {M : fm_M} {H : Heap} {locs : List Loc}, kP G M H → kS G s H locs → ∀ {ls : Array Slot}, lv_has ls 7 [(0, .ref (G.2.2 + x0)), (2, .int x2)] → k78 x0 x2 M = some (v, M') → W p l e rm_Mo_badDepth s m args below meth c H locs 0 0 (MQ below (fm_Q G 212 shF (some (.int v)) M') args s 0 0 (fm_A G.2.2)) (F0 m 78 ls [])) (k94 : Nat → Int32 → Int32 → Int32 → Int32 → fm_M → Option (Int32 × fm_M)) (hk94 : ∀ (x0 : Nat) (x2 : Int32) (x3 : Int32) (x4 : Int32) (x5 : Int32) {M : fm_M} {H : Heap} {locs : List Loc}, kP G M H → kS G s H locs → ∀ {ls : Array Slot}, lv_has ls 7 [(0, .ref (G.2.2 + x0)), (2, .int x2), (3, .int x3), (4, .int x4), (5, .int x5)] → k94 x0 x2 x3 x4 x5 M = some (v, M') → W p l e rm_Mo_badDepth s m args below meth c H locs 0 0 (MQ below (fm_Q G 212 shF (some (.int v)) M') args s 0 0 (fm_A G.2.2)) (F0 m 94 ls [])) (x0 : Nat) (x2 : Int32) (x3 : Int32) (x5 : Int32) {M : fm_M} {H : Heap} {locs : List Loc} (hP : kP G M H) (hS : kS G s H locs) {ls : Array Slot} (hl : lv_has ls 7 [(0, .ref (G.2.2 + x0)), (2, .int x2), (3, .int x3), (5, .int x5)]) (h : j_Mo_badDepth_162 k78 k94 x0 x2 x3 x5 M = some (v, M')) : W p l e rm_Mo_badDepth s m args below meth c H locs 0 0 (MQ below (fm_Q G 212 shF (some (.int v)) M') args s 0 0 (fm_A G.2.2)) (F0 m 162 ls []) := by
  have hx := C0.1
  have hb := C0.2.1
  unfold j_Mo_badDepth_162 at h
  refine lv_iconst (v := 0) hx hb d_Mo_badDepth_162 ic_0 ?_
  exact w_Mo_badDepth_163 C0 k78 hk78 k94 hk94 x0 x2 x3 x5 0 hP hS (lv_sub hl [0, 1, 2, 3] rfl) h
set_option maxHeartbeats 4000000 in
set_option maxRecDepth 100000 in
theorem w_Mo_badDepth_127 {p : Program} {l : Launch} {e : Env} {s : State} {m : MethodId} {args : Array Value} {below : List Frame} {meth : Method} {c : Code} {G : fm_G} (C0 : fm_C p s m args meth c G (.code y_Mo_badDepth b_Mo_badDepth 7 (some .int)) "AllocationProfilerModel" b_Mo_badDepth 7 (some .int)) {v : Int32} {M' : fm_M} (k78 : Nat → Int32 → fm_M → Option (Int32 × fm_M)) (hk78 : ∀ (x0 : Nat) (x2 : Int32) {M : fm_M} {H : Heap} {locs : List Loc}, kP G M H → kS G s H locs → ∀ {ls : Array Slot}, lv_has ls 7 [(0, .ref (G.2.2 + x0)), (2, .int x2)] → k78 x0 x2 M = some (v, M') → W p l e rm_Mo_badDepth s m args below meth c H locs 0 0 (MQ below (fm_Q G 212 shF (some (.int v)) M') args s 0 0 (fm_A G.2.2)) (F0 m 78 ls [])) (k94 : Nat → Int32 → Int32 → Int32 → Int32 → fm_M → Option (Int32 × fm_M)) (hk94 : ∀ (x0 : Nat) (x2 : Int32) (x3 : Int32) (x4 : Int32) (x5 : Int32) {M : fm_M} {H : Heap} {locs : List Loc}, kP G M H → kS G s H locs → ∀ {ls : Array Slot}, lv_has ls 7 [(0, .ref (G.2.2 + x0)), (2, .int x2), (3, .int x3), (4, .int x4), (5, .int x5)] → k94 x0 x2 x3 x4 x5 M = some (v, M') → W p l e rm_Mo_badDepth s m args below meth c H locs 0 0 (MQ below (fm_Q G 212 shF (some (.int v)) M') args s 0 0 (fm_A G.2.2)) (F0 m 94 ls [])) (x0 : Nat) (x2 : Int32) (x4 : Int32) (x5 : Int32) (x6 : Int32) (s0 : Int32) {M : fm_M} {H : Heap} {locs : List Loc} (hP : kP G M H) (hS : kS G s H locs) {ls : Array Slot} (hl : lv_has ls 7 [(0, .ref (G.2.2 + x0)), (2, .int x2), (4, .int x4), (5, .int x5), (6, .int x6)]) (h : j_Mo_badDepth_127 k78 k94 x0 x2 x4 x5 x6 s0 M = some (v, M')) : W p l e rm_Mo_badDepth s m args below meth c H locs 0 0 (MQ below (fm_Q G 212 shF (some (.int v)) M') args s 0 0 (fm_A G.2.2)) (F0 m 127 ls [.int s0]) := by
  have hx := C0.1
  have hb := C0.2.1
  unfold j_Mo_badDepth_127 at h
  refine lv_istore_n (lv' := [(3, .int s0), (0, .ref (G.2.2 + x0)), (2, .int x2), (4, .int x4), (5, .int x5), (6, .int x6)]) hx hb d_Mo_badDepth_127 rfl hl (by decide) rfl (fun ls hl => ?_)
  refine lv_iload hx hb d_Mo_badDepth_128 (lv_at hl 3 rfl) ?_
  refine lv_if_ne (tgt := 158) hx hb d_Mo_badDepth_130 (by decide) (fun c109 => ?_) (fun c109 => ?_)
  · rw [if_neg c109] at h
    exact w_Mo_badDepth_158 C0 k78 hk78 k94 hk94 x0 x2 s0 x5 hP hS (lv_sub hl [1, 2, 0, 4] rfl) h
  · rw [if_pos c109] at h
    refine lv_iload hx hb d_Mo_badDepth_133 (lv_at hl 5 rfl) ?_
    refine lv_if_eq (tgt := 162) hx hb d_Mo_badDepth_135 (by decide) (fun c110 => ?_) (fun c110 => ?_)
    · rw [if_pos c110] at h
      exact w_Mo_badDepth_162 C0 k78 hk78 k94 hk94 x0 x2 s0 x5 hP hS (lv_sub hl [1, 2, 0, 4] rfl) h
    · rw [if_neg c110] at h
      refine lv_iload hx hb d_Mo_badDepth_138 (lv_at hl 4 rfl) ?_
      refine lv_iconst (v := 5) hx hb d_Mo_badDepth_140 ic_5 ?_
      refine lv_icmp_gt (tgt := 158) hx hb d_Mo_badDepth_141 (by decide) (fun c111 => ?_) (fun c111 => ?_)
      · rw [if_pos c111] at h
        exact w_Mo_badDepth_158 C0 k78 hk78 k94 hk94 x0 x2 s0 x5 hP hS (lv_sub hl [1, 2, 0, 4] rfl) h
      · rw [if_neg c111] at h
        refine lv_iload hx hb d_Mo_badDepth_144 (lv_at hl 4 rfl) ?_
        refine lv_aload_n hx hb d_Mo_badDepth_146 rfl (lv_at hl 1 rfl) ?_
        obtain ⟨q112, e113, h⟩ := ob h
        refine k_gr C0 F_Mo_16 hP e113 d_Mo_badDepth_147 ?_
        refine lv_iload_n hx hb d_Mo_badDepth_150 rfl (lv_at hl 2 rfl) ?_
        obtain ⟨x114, e115, h⟩ := ob h
        refine k_ai C0 hP e115 d_Mo_badDepth_151 ?_
        obtain ⟨x118, M116, e117, h⟩ := ob2 h
        refine k_cS C0 L_Mo_157 (As := [.int x114]) (c_Mo_takes l G x114 e117) ⟨rfl, rfl⟩ ⟨Nat.le_of_ble_eq_true rfl, Nat.le_of_ble_eq_true rfl⟩ hP hS rfl hl.1 rfl (Nat.le_of_ble_eq_true rfl) d_Mo_badDepth_152 ⟨Nat.zero_le _, Nat.zero_le _⟩ (fun H locs hP hS => ?_)
        refine lv_icmp_ge (tgt := 162) hx hb d_Mo_badDepth_155 (by decide) (fun c119 => ?_) (fun c119 => ?_)
        · rw [if_pos c119] at h
          exact w_Mo_badDepth_162 C0 k78 hk78 k94 hk94 x0 x2 s0 x5 hP hS (lv_sub hl [1, 2, 0, 4] rfl) h
        · rw [if_neg c119] at h
          exact w_Mo_badDepth_158 C0 k78 hk78 k94 hk94 x0 x2 s0 x5 hP hS (lv_sub hl [1, 2, 0, 4] rfl) h
set_option maxHeartbeats 4000000 in
set_option maxRecDepth 100000 in
theorem w_Mo_badDepth_94 {p : Program} {l : Launch} {e : Env} {s : State} {m : MethodId} {args : Array Value} {below : List Frame} {meth : Method} {c : Code} {G : fm_G} (C0 : fm_C p s m args meth c G (.code y_Mo_badDepth b_Mo_badDepth 7 (some .int)) "AllocationProfilerModel" b_Mo_badDepth 7 (some .int)) {v : Int32} {M' : fm_M} (k78 : Nat → Int32 → fm_M → Option (Int32 × fm_M)) (hk78 : ∀ (x0 : Nat) (x2 : Int32) {M : fm_M} {H : Heap} {locs : List Loc}, kP G M H → kS G s H locs → ∀ {ls : Array Slot}, lv_has ls 7 [(0, .ref (G.2.2 + x0)), (2, .int x2)] → k78 x0 x2 M = some (v, M') → W p l e rm_Mo_badDepth s m args below meth c H locs 0 0 (MQ below (fm_Q G 212 shF (some (.int v)) M') args s 0 0 (fm_A G.2.2)) (F0 m 78 ls [])) : ∀ (n : Nat) (x0 : Nat) (x2 : Int32) (x3 : Int32) (x4 : Int32) (x5 : Int32) {M : fm_M} {H : Heap} {locs : List Loc}, kP G M H → kS G s H locs → ∀ {ls : Array Slot}, lv_has ls 7 [(0, .ref (G.2.2 + x0)), (2, .int x2), (3, .int x3), (4, .int x4), (5, .int x5)] → h_Mo_badDepth_94 k78 n x0 x2 x3 x4 x5 M = some (v, M') → W p l e rm_Mo_badDepth s m args below meth c H locs 0 0 (MQ below (fm_Q G 212 shF (some (.int v)) M') args s 0 0 (fm_A G.2.2)) (F0 m 94 ls []) := by
  have hx := C0.1
  have hb := C0.2.1
  intro n
  induction n with
  | zero =>
    intro x0 x2 x3 x4 x5 M H locs hP hS ls hl h
    exact nomatch h
  | succ n ih =>
    intro x0 x2 x3 x4 x5 M H locs hP hS ls hl h
    have h : (if 10 ≤ x5 then
        if x4 = 0 then
          if x3 ≤ 1 then
            k78 x0 (x2 + 1) M
          else
            some (x2, M)
        else
          some (x2, M)
      else
        (gr x0 10 24).bind fun q123 =>
        (az q123 ((10 * x2) + x5) M).bind fun x125 =>
        if x125 = 0 then
          j_Mo_badDepth_127 k78 (h_Mo_badDepth_94 k78 n) x0 x2 x4 x5 x125 x3 M
        else
          j_Mo_badDepth_127 k78 (h_Mo_badDepth_94 k78 n) x0 x2 x4 x5 x125 (x3 + 1) M) = some (v, M') := h
    refine lv_iload hx hb d_Mo_badDepth_94 (lv_at hl 4 rfl) ?_
    refine lv_bipush (v := 10) hx hb d_Mo_badDepth_96 bp_10 ?_
    refine lv_icmp_ge (tgt := 171) hx hb d_Mo_badDepth_98 (by decide) (fun c120 => ?_) (fun c120 => ?_)
    · rw [if_pos c120] at h
      refine lv_iload hx hb d_Mo_badDepth_171 (lv_at hl 3 rfl) ?_
      refine lv_if_ne (tgt := 181) hx hb d_Mo_badDepth_173 (by decide) (fun c121 => ?_) (fun c121 => ?_)
      · rw [if_neg c121] at h
        refine lv_iload_n hx hb d_Mo_badDepth_181 rfl (lv_at hl 1 rfl) ?_
        cases h
        exact r_iret C0 hP hS d_Mo_badDepth_182
      · rw [if_pos c121] at h
        refine lv_iload_n hx hb d_Mo_badDepth_176 rfl (lv_at hl 2 rfl) ?_
        refine lv_iconst (v := 1) hx hb d_Mo_badDepth_177 ic_1 ?_
        refine lv_icmp_le (tgt := 183) hx hb d_Mo_badDepth_178 (by decide) (fun c122 => ?_) (fun c122 => ?_)
        · rw [if_pos c122] at h
          refine lv_iinc (v := (x2 + 1)) (lv' := [(2, .int (x2 + 1)), (0, .ref (G.2.2 + x0)), (3, .int x3), (4, .int x4), (5, .int x5)]) hx hb d_Mo_badDepth_183 hl (k := 1) rfl (congrArg (fun z => x2 + z) ic_1) (by decide) rfl (fun ls hl => ?_)
          refine lv_goto (tgt := 78) hx hb d_Mo_badDepth_186 (by decide) ?_
          exact hk78 x0 (x2 + 1) hP hS (lv_sub hl [1, 0] rfl) h
        · rw [if_neg c122] at h
          refine lv_iload_n hx hb d_Mo_badDepth_181 rfl (lv_at hl 1 rfl) ?_
          cases h
          exact r_iret C0 hP hS d_Mo_badDepth_182
    · rw [if_neg c120] at h
      refine lv_aload_n hx hb d_Mo_badDepth_101 rfl (lv_at hl 0 rfl) ?_
      obtain ⟨q123, e124, h⟩ := ob h
      refine k_gr C0 F_Mo_63 hP e124 d_Mo_badDepth_102 ?_
      refine lv_bipush (v := 10) hx hb d_Mo_badDepth_105 bp_10 ?_
      refine lv_iload_n hx hb d_Mo_badDepth_107 rfl (lv_at hl 1 rfl) ?_
      refine lv_imul hx hb d_Mo_badDepth_108 ?_
      refine lv_iload hx hb d_Mo_badDepth_109 (lv_at hl 4 rfl) ?_
      refine lv_iadd hx hb d_Mo_badDepth_111 ?_
      obtain ⟨x125, e126, h⟩ := ob h
      refine k_az C0 hP e126 d_Mo_badDepth_112 ?_
      refine lv_istore (lv' := [(6, .int x125), (0, .ref (G.2.2 + x0)), (2, .int x2), (3, .int x3), (4, .int x4), (5, .int x5)]) hx hb d_Mo_badDepth_113 hl (by decide) rfl (fun ls hl => ?_)
      refine lv_iload hx hb d_Mo_badDepth_115 (lv_at hl 0 rfl) ?_
      refine lv_if_eq (tgt := 126) hx hb d_Mo_badDepth_117 (by decide) (fun c127 => ?_) (fun c127 => ?_)
      · rw [if_pos c127] at h
        refine lv_iload_n hx hb d_Mo_badDepth_126 rfl (lv_at hl 3 rfl) ?_
        exact w_Mo_badDepth_127 C0 k78 hk78 (h_Mo_badDepth_94 k78 n) ih x0 x2 x4 x5 x125 x3 hP hS (lv_sub hl [1, 2, 4, 5, 0] rfl) h
      · rw [if_neg c127] at h
        refine lv_iload_n hx hb d_Mo_badDepth_120 rfl (lv_at hl 3 rfl) ?_
        refine lv_iconst (v := 1) hx hb d_Mo_badDepth_121 ic_1 ?_
        refine lv_iadd hx hb d_Mo_badDepth_122 ?_
        refine lv_goto (tgt := 127) hx hb d_Mo_badDepth_123 (by decide) ?_
        exact w_Mo_badDepth_127 C0 k78 hk78 (h_Mo_badDepth_94 k78 n) ih x0 x2 x4 x5 x125 (x3 + 1) hP hS (lv_sub hl [1, 2, 4, 5, 0] rfl) h
set_option maxHeartbeats 4000000 in
set_option maxRecDepth 100000 in
theorem w_Mo_badDepth_78 {p : Program} {l : Launch} {e : Env} {s : State} {m : MethodId} {args : Array Value} {below : List Frame} {meth : Method} {c : Code} {G : fm_G} (C0 : fm_C p s m args meth c G (.code y_Mo_badDepth b_Mo_badDepth 7 (some .int)) "AllocationProfilerModel" b_Mo_badDepth 7 (some .int)) {v : Int32} {M' : fm_M} : ∀ (n : Nat) (x0 : Nat) (x2 : Int32) {M : fm_M} {H : Heap} {locs : List Loc}, kP G M H → kS G s H locs → ∀ {ls : Array Slot}, lv_has ls 7 [(0, .ref (G.2.2 + x0)), (2, .int x2)] → h_Mo_badDepth_78 n x0 x2 M = some (v, M') → W p l e rm_Mo_badDepth s m args below meth c H locs 0 0 (MQ below (fm_Q G 212 shF (some (.int v)) M') args s 0 0 (fm_A G.2.2)) (F0 m 78 ls []) := by
  have hx := C0.1
  have hb := C0.2.1
  intro n
  induction n with
  | zero =>
    intro x0 x2 M H locs hP hS ls hl h
    exact nomatch h
  | succ n ih =>
    intro x0 x2 M H locs hP hS ls hl h
    have h : ((gi x0 10 4 M).bind fun x128 =>
      if x128 ≤ x2 then
        some ((-1), M)
      else
        h_Mo_badDepth_94 (h_Mo_badDepth_78 n) 100000 x0 x2 0 0 0 M) = some (v, M') := h
    refine lv_iload_n hx hb d_Mo_badDepth_78 rfl (lv_at hl 1 rfl) ?_
    refine lv_aload_n hx hb d_Mo_badDepth_79 rfl (lv_at hl 0 rfl) ?_
    obtain ⟨x128, e129, h⟩ := ob h
    refine k_gi C0 F_Mo_144 ik_10_4 hP e129 d_Mo_badDepth_80 ?_
    refine lv_icmp_ge (tgt := 189) hx hb d_Mo_badDepth_83 (by decide) (fun c130 => ?_) (fun c130 => ?_)
    · rw [if_pos c130] at h
      refine lv_iconst (v := (-1)) hx hb d_Mo_badDepth_189 ic_m1 ?_
      cases h
      exact r_iret C0 hP hS d_Mo_badDepth_190
    · rw [if_neg c130] at h
      refine lv_iconst (v := 0) hx hb d_Mo_badDepth_86 ic_0 ?_
      refine lv_istore_n (lv' := [(3, .int 0), (0, .ref (G.2.2 + x0)), (2, .int x2)]) hx hb d_Mo_badDepth_87 rfl hl (by decide) rfl (fun ls hl => ?_)
      refine lv_iconst (v := 0) hx hb d_Mo_badDepth_88 ic_0 ?_
      refine lv_istore (lv' := [(4, .int 0), (3, .int 0), (0, .ref (G.2.2 + x0)), (2, .int x2)]) hx hb d_Mo_badDepth_89 hl (by decide) rfl (fun ls hl => ?_)
      refine lv_iconst (v := 0) hx hb d_Mo_badDepth_91 ic_0 ?_
      refine lv_istore (lv' := [(5, .int 0), (4, .int 0), (3, .int 0), (0, .ref (G.2.2 + x0)), (2, .int x2)]) hx hb d_Mo_badDepth_92 hl (by decide) rfl (fun ls hl => ?_)
      exact w_Mo_badDepth_94 C0 (h_Mo_badDepth_78 n) ih 100000 x0 x2 0 0 0 hP hS (lv_sub hl [3, 4, 2, 1, 0] rfl) h
set_option maxHeartbeats 4000000 in
set_option maxRecDepth 100000 in
theorem w_Mo_badDepth_31 {p : Program} {l : Launch} {e : Env} {s : State} {m : MethodId} {args : Array Value} {below : List Frame} {meth : Method} {c : Code} {G : fm_G} (C0 : fm_C p s m args meth c G (.code y_Mo_badDepth b_Mo_badDepth 7 (some .int)) "AllocationProfilerModel" b_Mo_badDepth 7 (some .int)) {v : Int32} {M' : fm_M} : ∀ (n : Nat) (x0 : Nat) (x1 : Int32) {M : fm_M} {H : Heap} {locs : List Loc}, kP G M H → kS G s H locs → ∀ {ls : Array Slot}, lv_has ls 7 [(0, .ref (G.2.2 + x0)), (1, .int x1)] → h_Mo_badDepth_31 n x0 x1 M = some (v, M') → W p l e rm_Mo_badDepth s m args below meth c H locs 0 0 (MQ below (fm_Q G 212 shF (some (.int v)) M') args s 0 0 (fm_A G.2.2)) (F0 m 31 ls []) := by
  have hx := C0.1
  have hb := C0.2.1
  intro n
  induction n with
  | zero =>
    intro x0 x1 M H locs hP hS ls hl h
    exact nomatch h
  | succ n ih =>
    intro x0 x1 M H locs hP hS ls hl h
    have h : (if x1 = 0 then
        h_Mo_badDepth_78 100000 x0 0 M
      else
        h_Mo_badDepth_39 (h_Mo_badDepth_31 n) 100000 x0 0 0 M) = some (v, M') := h
    refine lv_iload_n hx hb d_Mo_badDepth_31 rfl (lv_at hl 1 rfl) ?_
    refine lv_if_eq (tgt := 76) hx hb d_Mo_badDepth_32 (by decide) (fun c131 => ?_) (fun c131 => ?_)
    · rw [if_pos c131] at h
      refine lv_iconst (v := 0) hx hb d_Mo_badDepth_76 ic_0 ?_
      refine lv_istore_n (lv' := [(2, .int 0), (0, .ref (G.2.2 + x0)), (1, .int x1)]) hx hb d_Mo_badDepth_77 rfl hl (by decide) rfl (fun ls hl => ?_)
      exact w_Mo_badDepth_78 C0 100000 x0 0 hP hS (lv_sub hl [1, 0] rfl) h
    · rw [if_neg c131] at h
      refine lv_iconst (v := 0) hx hb d_Mo_badDepth_35 ic_0 ?_
      refine lv_istore_n (lv' := [(1, .int 0), (0, .ref (G.2.2 + x0))]) hx hb d_Mo_badDepth_36 rfl hl (by decide) rfl (fun ls hl => ?_)
      refine lv_iconst (v := 0) hx hb d_Mo_badDepth_37 ic_0 ?_
      refine lv_istore_n (lv' := [(2, .int 0), (1, .int 0), (0, .ref (G.2.2 + x0))]) hx hb d_Mo_badDepth_38 rfl hl (by decide) rfl (fun ls hl => ?_)
      exact w_Mo_badDepth_39 C0 (h_Mo_badDepth_31 n) ih 100000 x0 0 0 hP hS (lv_sub hl [2, 1, 0] rfl) h
set_option maxHeartbeats 4000000 in
set_option maxRecDepth 100000 in
theorem w_Mo_badDepth_2 {p : Program} {l : Launch} {e : Env} {s : State} {m : MethodId} {args : Array Value} {below : List Frame} {meth : Method} {c : Code} {G : fm_G} (C0 : fm_C p s m args meth c G (.code y_Mo_badDepth b_Mo_badDepth 7 (some .int)) "AllocationProfilerModel" b_Mo_badDepth 7 (some .int)) {v : Int32} {M' : fm_M} : ∀ (n : Nat) (x0 : Nat) (x1 : Int32) {M : fm_M} {H : Heap} {locs : List Loc}, kP G M H → kS G s H locs → ∀ {ls : Array Slot}, lv_has ls 7 [(0, .ref (G.2.2 + x0)), (1, .int x1)] → h_Mo_badDepth_2 n x0 x1 M = some (v, M') → W p l e rm_Mo_badDepth s m args below meth c H locs 0 0 (MQ below (fm_Q G 212 shF (some (.int v)) M') args s 0 0 (fm_A G.2.2)) (F0 m 2 ls []) := by
  have hx := C0.1
  have hb := C0.2.1
  intro n
  induction n with
  | zero =>
    intro x0 x1 M H locs hP hS ls hl h
    exact nomatch h
  | succ n ih =>
    intro x0 x1 M H locs hP hS ls hl h
    have h : (if 250 ≤ x1 then
        (gr x0 10 24).bind fun q133 =>
        (sz q133 0 1 M).bind fun M135 =>
        h_Mo_badDepth_31 100000 x0 1 M135
      else
        (gr x0 10 24).bind fun q137 =>
        (sz q137 x1 0 M).bind fun M139 =>
        h_Mo_badDepth_2 n x0 (x1 + 1) M139) = some (v, M') := h
    refine lv_iload_n hx hb d_Mo_badDepth_2 rfl (lv_at hl 1 rfl) ?_
    refine lv_sipush (v := 250) hx hb d_Mo_badDepth_3 sp_250 ?_
    refine lv_icmp_ge (tgt := 22) hx hb d_Mo_badDepth_6 (by decide) (fun c132 => ?_) (fun c132 => ?_)
    · rw [if_pos c132] at h
      refine lv_aload_n hx hb d_Mo_badDepth_22 rfl (lv_at hl 0 rfl) ?_
      obtain ⟨q133, e134, h⟩ := ob h
      refine k_gr C0 F_Mo_63 hP e134 d_Mo_badDepth_23 ?_
      refine lv_iconst (v := 0) hx hb d_Mo_badDepth_26 ic_0 ?_
      refine lv_iconst (v := 1) hx hb d_Mo_badDepth_27 ic_1 ?_
      obtain ⟨M135, e136, h⟩ := ob h
      refine k_sz C0 hP hS (by decide) e136 d_Mo_badDepth_28 (fun H locs hP hS => ?_)
      refine lv_iconst (v := 1) hx hb d_Mo_badDepth_29 ic_1 ?_
      refine lv_istore_n (lv' := [(1, .int 1), (0, .ref (G.2.2 + x0))]) hx hb d_Mo_badDepth_30 rfl hl (by decide) rfl (fun ls hl => ?_)
      exact w_Mo_badDepth_31 C0 100000 x0 1 hP hS (lv_sub hl [1, 0] rfl) h
    · rw [if_neg c132] at h
      refine lv_aload_n hx hb d_Mo_badDepth_9 rfl (lv_at hl 0 rfl) ?_
      obtain ⟨q137, e138, h⟩ := ob h
      refine k_gr C0 F_Mo_63 hP e138 d_Mo_badDepth_10 ?_
      refine lv_iload_n hx hb d_Mo_badDepth_13 rfl (lv_at hl 1 rfl) ?_
      refine lv_iconst (v := 0) hx hb d_Mo_badDepth_14 ic_0 ?_
      obtain ⟨M139, e140, h⟩ := ob h
      refine k_sz C0 hP hS (by decide) e140 d_Mo_badDepth_15 (fun H locs hP hS => ?_)
      refine lv_iinc (v := (x1 + 1)) (lv' := [(1, .int (x1 + 1)), (0, .ref (G.2.2 + x0))]) hx hb d_Mo_badDepth_16 hl (k := 1) rfl (congrArg (fun z => x1 + z) ic_1) (by decide) rfl (fun ls hl => ?_)
      refine lv_goto (tgt := 2) hx hb d_Mo_badDepth_19 (by decide) ?_
      exact ih x0 (x1 + 1) hP hS (lv_sub hl [1, 0] rfl) h
set_option maxHeartbeats 4000000 in
set_option maxRecDepth 100000 in
theorem c_Mo_badDepth (l : Launch) (G : fm_G) (x0 : Nat) {v : Int32} {M M' : fm_M} (h : f_Mo_badDepth x0 M = some (v, M')) : kMet l y_Mo_badDepth b_Mo_badDepth 7 (some .int) rm_Mo_badDepth G M [.ref (G.2.2 + x0)] (some (.int v)) M' := by
  refine r_met (by decide) rfl (Nat.le_of_ble_eq_true rfl) (fun p e s m args below meth c C0 hP ls hl => ?_)
  have hx := C0.1
  have hb := C0.2.1
  have hl : lv_has ls 7 [(0, .ref (G.2.2 + x0))] := hl
  have hS : va_S (fm_A G.2.2) s.heap s.heap [] := va_S.rf
  unfold f_Mo_badDepth at h
  refine lv_iconst (v := 0) hx hb d_Mo_badDepth_0 ic_0 ?_
  refine lv_istore_n (lv' := [(1, .int 0), (0, .ref (G.2.2 + x0))]) hx hb d_Mo_badDepth_1 rfl hl (by decide) rfl (fun ls hl => ?_)
  exact w_Mo_badDepth_2 C0 100000 x0 0 hP hS (lv_sub hl [1, 0] rfl) h
