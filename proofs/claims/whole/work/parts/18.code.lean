/-! AllocationProfilerModel.report -/
def rm_Mo_report : Room := { frames := 1, cells := 0, slots := 0, locals := 23 }
theorem d_Mo_report_0 : decode b_Mo_report 0 = .ok (.aload_n 0, 1) := by decide +kernel
theorem d_Mo_report_1 : decode b_Mo_report 1 = .ok (.getfield 93, 3) := by decide +kernel
theorem d_Mo_report_4 : decode b_Mo_report 4 = .ok (.iconst 3, 1) := by decide +kernel
theorem d_Mo_report_5 : decode b_Mo_report 5 = .ok (.iload_n 2, 1) := by decide +kernel
theorem d_Mo_report_6 : decode b_Mo_report 6 = .ok (.imul, 1) := by decide +kernel
theorem d_Mo_report_7 : decode b_Mo_report 7 = .ok (.iload_n 1, 1) := by decide +kernel
theorem d_Mo_report_8 : decode b_Mo_report 8 = .ok (.iadd, 1) := by decide +kernel
theorem d_Mo_report_9 : decode b_Mo_report 9 = .ok (.dup2, 1) := by decide +kernel
theorem d_Mo_report_10 : decode b_Mo_report 10 = .ok (.laload, 1) := by decide +kernel
theorem d_Mo_report_11 : decode b_Mo_report 11 = .ok (.lconst 1, 1) := by decide +kernel
theorem d_Mo_report_12 : decode b_Mo_report 12 = .ok (.ladd, 1) := by decide +kernel
theorem d_Mo_report_13 : decode b_Mo_report 13 = .ok (.lastore, 1) := by decide +kernel
theorem d_Mo_report_14 : decode b_Mo_report 14 = .ok (.aload_n 0, 1) := by decide +kernel
theorem d_Mo_report_15 : decode b_Mo_report 15 = .ok (.getfield 97, 3) := by decide +kernel
theorem d_Mo_report_18 : decode b_Mo_report 18 = .ok (.iconst 3, 1) := by decide +kernel
theorem d_Mo_report_19 : decode b_Mo_report 19 = .ok (.iload_n 2, 1) := by decide +kernel
theorem d_Mo_report_20 : decode b_Mo_report 20 = .ok (.imul, 1) := by decide +kernel
theorem d_Mo_report_21 : decode b_Mo_report 21 = .ok (.iload_n 1, 1) := by decide +kernel
theorem d_Mo_report_22 : decode b_Mo_report 22 = .ok (.iadd, 1) := by decide +kernel
theorem d_Mo_report_23 : decode b_Mo_report 23 = .ok (.aload_n 0, 1) := by decide +kernel
theorem d_Mo_report_24 : decode b_Mo_report 24 = .ok (.getfield 97, 3) := by decide +kernel
theorem d_Mo_report_27 : decode b_Mo_report 27 = .ok (.iconst 3, 1) := by decide +kernel
theorem d_Mo_report_28 : decode b_Mo_report 28 = .ok (.iload_n 2, 1) := by decide +kernel
theorem d_Mo_report_29 : decode b_Mo_report 29 = .ok (.imul, 1) := by decide +kernel
theorem d_Mo_report_30 : decode b_Mo_report 30 = .ok (.iload_n 1, 1) := by decide +kernel
theorem d_Mo_report_31 : decode b_Mo_report 31 = .ok (.iadd, 1) := by decide +kernel
theorem d_Mo_report_32 : decode b_Mo_report 32 = .ok (.laload, 1) := by decide +kernel
theorem d_Mo_report_33 : decode b_Mo_report 33 = .ok (.iload_n 3, 1) := by decide +kernel
theorem d_Mo_report_34 : decode b_Mo_report 34 = .ok (.i2l, 1) := by decide +kernel
theorem d_Mo_report_35 : decode b_Mo_report 35 = .ok (.ladd, 1) := by decide +kernel
theorem d_Mo_report_36 : decode b_Mo_report 36 = .ok (.lastore, 1) := by decide +kernel
theorem d_Mo_report_37 : decode b_Mo_report 37 = .ok (.aload_n 0, 1) := by decide +kernel
theorem d_Mo_report_38 : decode b_Mo_report 38 = .ok (.getfield 110, 3) := by decide +kernel
theorem d_Mo_report_41 : decode b_Mo_report 41 = .ok (.iload_n 1, 1) := by decide +kernel
theorem d_Mo_report_42 : decode b_Mo_report 42 = .ok (.aload_n 0, 1) := by decide +kernel
theorem d_Mo_report_43 : decode b_Mo_report 43 = .ok (.getfield 110, 3) := by decide +kernel
theorem d_Mo_report_46 : decode b_Mo_report 46 = .ok (.iload_n 1, 1) := by decide +kernel
theorem d_Mo_report_47 : decode b_Mo_report 47 = .ok (.iaload, 1) := by decide +kernel
theorem d_Mo_report_48 : decode b_Mo_report 48 = .ok (.iload_n 3, 1) := by decide +kernel
theorem d_Mo_report_49 : decode b_Mo_report 49 = .ok (.isub, 1) := by decide +kernel
theorem d_Mo_report_50 : decode b_Mo_report 50 = .ok (.iastore, 1) := by decide +kernel
theorem d_Mo_report_51 : decode b_Mo_report 51 = .ok (.aload_n 0, 1) := by decide +kernel
theorem d_Mo_report_52 : decode b_Mo_report 52 = .ok (.getfield 110, 3) := by decide +kernel
theorem d_Mo_report_55 : decode b_Mo_report 55 = .ok (.iload_n 1, 1) := by decide +kernel
theorem d_Mo_report_56 : decode b_Mo_report 56 = .ok (.iaload, 1) := by decide +kernel
theorem d_Mo_report_57 : decode b_Mo_report 57 = .ok (.ifCond .gt 43, 3) := by decide +kernel
theorem d_Mo_report_60 : decode b_Mo_report 60 = .ok (.aload_n 0, 1) := by decide +kernel
theorem d_Mo_report_61 : decode b_Mo_report 61 = .ok (.getfield 110, 3) := by decide +kernel
theorem d_Mo_report_64 : decode b_Mo_report 64 = .ok (.iload_n 1, 1) := by decide +kernel
theorem d_Mo_report_65 : decode b_Mo_report 65 = .ok (.aload_n 0, 1) := by decide +kernel
theorem d_Mo_report_66 : decode b_Mo_report 66 = .ok (.getfield 110, 3) := by decide +kernel
theorem d_Mo_report_69 : decode b_Mo_report 69 = .ok (.iload_n 1, 1) := by decide +kernel
theorem d_Mo_report_70 : decode b_Mo_report 70 = .ok (.iaload, 1) := by decide +kernel
theorem d_Mo_report_71 : decode b_Mo_report 71 = .ok (.aload_n 0, 1) := by decide +kernel
theorem d_Mo_report_72 : decode b_Mo_report 72 = .ok (.getfield 199, 3) := by decide +kernel
theorem d_Mo_report_75 : decode b_Mo_report 75 = .ok (.iadd, 1) := by decide +kernel
theorem d_Mo_report_76 : decode b_Mo_report 76 = .ok (.iastore, 1) := by decide +kernel
theorem d_Mo_report_77 : decode b_Mo_report 77 = .ok (.aload_n 0, 1) := by decide +kernel
theorem d_Mo_report_78 : decode b_Mo_report 78 = .ok (.getfield 100, 3) := by decide +kernel
theorem d_Mo_report_81 : decode b_Mo_report 81 = .ok (.iload_n 2, 1) := by decide +kernel
theorem d_Mo_report_82 : decode b_Mo_report 82 = .ok (.dup2, 1) := by decide +kernel
theorem d_Mo_report_83 : decode b_Mo_report 83 = .ok (.iaload, 1) := by decide +kernel
theorem d_Mo_report_84 : decode b_Mo_report 84 = .ok (.iconst 1, 1) := by decide +kernel
theorem d_Mo_report_85 : decode b_Mo_report 85 = .ok (.iadd, 1) := by decide +kernel
theorem d_Mo_report_86 : decode b_Mo_report 86 = .ok (.iastore, 1) := by decide +kernel
theorem d_Mo_report_87 : decode b_Mo_report 87 = .ok (.aload_n 0, 1) := by decide +kernel
theorem d_Mo_report_88 : decode b_Mo_report 88 = .ok (.iload_n 2, 1) := by decide +kernel
theorem d_Mo_report_89 : decode b_Mo_report 89 = .ok (.aload_n 0, 1) := by decide +kernel
theorem d_Mo_report_90 : decode b_Mo_report 90 = .ok (.iload_n 1, 1) := by decide +kernel
theorem d_Mo_report_91 : decode b_Mo_report 91 = .ok (.invokevirtual 213, 3) := by decide +kernel
theorem d_Mo_report_94 : decode b_Mo_report 94 = .ok (.invokevirtual 216, 3) := by decide +kernel
theorem d_Mo_report_97 : decode b_Mo_report 97 = .ok (.goto (-46), 3) := by decide +kernel
theorem d_Mo_report_100 : decode b_Mo_report 100 = .ok (.return_, 1) := by decide +kernel
def h_Mo_report_51 : Nat → Nat → Int32 → Int32 → fm_M → Option fm_M
  | 0, _, _, _, _ => none
  | n + 1, x0, x1, x2, M =>
    (gr x0 10 43).bind fun q101 =>
    (ai q101 x1 M).bind fun x103 =>
    if 0 < x103 then
      some M
    else
      (gr x0 10 43).bind fun q106 =>
      (gr x0 10 43).bind fun q108 =>
      (ai q108 x1 M).bind fun x110 =>
      (gi x0 10 42 M).bind fun x112 =>
      (si q106 x1 (x110 + x112) M).bind fun M114 =>
      (gr x0 10 39).bind fun q116 =>
      (ai q116 x2 M114).bind fun x118 =>
      (si q116 x2 (x118 + 1) M114).bind fun M120 =>
      (ck x0 10).bind fun _ =>
      bd (f_Mo_stackOf x0 x1 M120) fun x125 M123 =>
      (ck x0 10).bind fun _ =>
      (f_Mo_sample x0 x2 x125 M123).bind fun M127 =>
      h_Mo_report_51 n x0 x1 x2 M127
def f_Mo_report (x0 : Nat) (x1 : Int32) (x2 : Int32) (x3 : Int32) (M : fm_M) : Option fm_M :=
  (gr x0 10 37).bind fun q129 =>
  (aj q129 ((3 * x2) + x1) M).bind fun x131 =>
  (sj q129 ((3 * x2) + x1) (x131 + 1) M).bind fun M133 =>
  (gr x0 10 38).bind fun q135 =>
  (gr x0 10 38).bind fun q137 =>
  (aj q137 ((3 * x2) + x1) M133).bind fun x139 =>
  (sj q135 ((3 * x2) + x1) (x139 + x3.toInt64) M133).bind fun M141 =>
  (gr x0 10 43).bind fun q143 =>
  (gr x0 10 43).bind fun q145 =>
  (ai q145 x1 M141).bind fun x147 =>
  (si q143 x1 (x147 - x3) M141).bind fun M149 =>
  h_Mo_report_51 100000 x0 x1 x2 M149
set_option maxHeartbeats 4000000 in
set_option maxRecDepth 100000 in
theorem w_Mo_report_51 {p : Program} {l : Launch} {e : Env} {s : State} {m : MethodId} {args : Array Value} {below : List Frame} {meth : Method} {c : Code} {G : fm_G} (C0 : fm_C p s m args meth c G (.code y_Mo_report b_Mo_report 4 none) "AllocationProfilerModel" b_Mo_report 4 none) {M' : fm_M} : ∀ (n : Nat) (x0 : Nat) (x1 : Int32) (x2 : Int32) {M : fm_M} {H : Heap} {locs : List Loc}, kP G M H → kS G s H locs → ∀ {ls : Array Slot}, lv_has ls 4 [(0, .ref (G.2.2 + x0)), (1, .int x1), (2, .int x2)] → h_Mo_report_51 n x0 x1 x2 M = some M' → W p l e rm_Mo_report s m args below meth c H locs 0 0 (MQ below (fm_Q G 212 shF none M') args s 0 0 (fm_A G.2.2)) (F0 m 51 ls []) := by
  have hx := C0.1
  have hb := C0.2.1
  intro n
  induction n with
  | zero =>
    intro x0 x1 x2 M H locs hP hS ls hl h
    exact nomatch h
  | succ n ih =>
    intro x0 x1 x2 M H locs hP hS ls hl h
    have h : ((gr x0 10 43).bind fun q101 =>
      (ai q101 x1 M).bind fun x103 =>
      if 0 < x103 then
        some M
      else
        (gr x0 10 43).bind fun q106 =>
        (gr x0 10 43).bind fun q108 =>
        (ai q108 x1 M).bind fun x110 =>
        (gi x0 10 42 M).bind fun x112 =>
        (si q106 x1 (x110 + x112) M).bind fun M114 =>
        (gr x0 10 39).bind fun q116 =>
        (ai q116 x2 M114).bind fun x118 =>
        (si q116 x2 (x118 + 1) M114).bind fun M120 =>
        (ck x0 10).bind fun _ =>
        bd (f_Mo_stackOf x0 x1 M120) fun x125 M123 =>
        (ck x0 10).bind fun _ =>
        (f_Mo_sample x0 x2 x125 M123).bind fun M127 =>
        h_Mo_report_51 n x0 x1 x2 M127) = some M' := h
    refine lv_aload_n hx hb d_Mo_report_51 rfl (lv_at hl 0 rfl) ?_
    obtain ⟨q101, e102, h⟩ := ob h
    refine k_gr C0 F_Mo_110 hP e102 d_Mo_report_52 ?_
    refine lv_iload_n hx hb d_Mo_report_55 rfl (lv_at hl 1 rfl) ?_
    obtain ⟨x103, e104, h⟩ := ob h
    refine k_ai C0 hP e104 d_Mo_report_56 ?_
    refine lv_if_gt (tgt := 100) hx hb d_Mo_report_57 (by decide) (fun c105 => ?_) (fun c105 => ?_)
    · rw [if_pos c105] at h
      cases h
      exact r_vret C0 hP hS d_Mo_report_100
    · rw [if_neg c105] at h
      refine lv_aload_n hx hb d_Mo_report_60 rfl (lv_at hl 0 rfl) ?_
      obtain ⟨q106, e107, h⟩ := ob h
      refine k_gr C0 F_Mo_110 hP e107 d_Mo_report_61 ?_
      refine lv_iload_n hx hb d_Mo_report_64 rfl (lv_at hl 1 rfl) ?_
      refine lv_aload_n hx hb d_Mo_report_65 rfl (lv_at hl 0 rfl) ?_
      obtain ⟨q108, e109, h⟩ := ob h
      refine k_gr C0 F_Mo_110 hP e109 d_Mo_report_66 ?_
      refine lv_iload_n hx hb d_Mo_report_69 rfl (lv_at hl 1 rfl) ?_
      obtain ⟨x110, e111, h⟩ := ob h
      refine k_ai C0 hP e111 d_Mo_report_70 ?_
      refine lv_aload_n hx hb d_Mo_report_71 rfl (lv_at hl 0 rfl) ?_
      obtain ⟨x112, e113, h⟩ := ob h
      refine k_gi C0 F_Mo_199 ik_10_42 hP e113 d_Mo_report_72 ?_
      refine lv_iadd hx hb d_Mo_report_75 ?_
      obtain ⟨M114, e115, h⟩ := ob h
      refine k_si C0 hP hS e115 d_Mo_report_76 (fun H locs hP hS => ?_)
      refine lv_aload_n hx hb d_Mo_report_77 rfl (lv_at hl 0 rfl) ?_
      obtain ⟨q116, e117, h⟩ := ob h
      refine k_gr C0 F_Mo_100 hP e117 d_Mo_report_78 ?_
      refine lv_iload_n hx hb d_Mo_report_81 rfl (lv_at hl 2 rfl) ?_
      refine lv_dup2_11 hx hb d_Mo_report_82 rfl rfl ?_
      obtain ⟨x118, e119, h⟩ := ob h
      refine k_ai C0 hP e119 d_Mo_report_83 ?_
      refine lv_iconst (v := 1) hx hb d_Mo_report_84 ic_1 ?_
      refine lv_iadd hx hb d_Mo_report_85 ?_
      obtain ⟨M120, e121, h⟩ := ob h
      refine k_si C0 hP hS e121 d_Mo_report_86 (fun H locs hP hS => ?_)
      refine lv_aload_n hx hb d_Mo_report_87 rfl (lv_at hl 0 rfl) ?_
      refine lv_iload_n hx hb d_Mo_report_88 rfl (lv_at hl 2 rfl) ?_
      refine lv_aload_n hx hb d_Mo_report_89 rfl (lv_at hl 0 rfl) ?_
      refine lv_iload_n hx hb d_Mo_report_90 rfl (lv_at hl 1 rfl) ?_
      obtain ⟨_, e122, h⟩ := ob h
      obtain ⟨x125, M123, e124, h⟩ := ob2 h
      refine k_cV C0 L_Mo_213 (As := [.int x1]) (c_Mo_stackOf l G x0 x1 e124) ⟨rfl, rfl⟩ ⟨Nat.le_of_ble_eq_true rfl, Nat.le_of_ble_eq_true rfl⟩ hP hS (ck_of e122) ly_Mo rfl hl.1 rfl (Nat.le_of_ble_eq_true rfl) d_Mo_report_91 ⟨Nat.zero_le _, Nat.zero_le _⟩ (fun H locs hP hS => ?_)
      obtain ⟨_, e126, h⟩ := ob h
      obtain ⟨M127, e128, h⟩ := ob h
      refine k_cVv C0 L_Mo_216 (As := [.int x2, .int x125]) (c_Mo_sample l G x0 x2 x125 e128) ⟨rfl, rfl⟩ ⟨Nat.le_of_ble_eq_true rfl, Nat.le_of_ble_eq_true rfl⟩ hP hS (ck_of e126) ly_Mo rfl hl.1 rfl (Nat.le_of_ble_eq_true rfl) d_Mo_report_94 ⟨Nat.zero_le _, Nat.zero_le _⟩ (fun H locs hP hS => ?_)
      refine lv_goto (tgt := 51) hx hb d_Mo_report_97 (by decide) ?_
      exact ih x0 x1 x2 hP hS (lv_sub hl [0, 1, 2] rfl) h
set_option maxHeartbeats 4000000 in
set_option maxRecDepth 100000 in
theorem c_Mo_report (l : Launch) (G : fm_G) (x0 : Nat) (x1 : Int32) (x2 : Int32) (x3 : Int32) {M M' : fm_M} (h : f_Mo_report x0 x1 x2 x3 M = some M') : kMet l y_Mo_report b_Mo_report 4 none rm_Mo_report G M [.ref (G.2.2 + x0), .int x1, .int x2, .int x3] none M' := by
  refine r_met (by decide) rfl (Nat.le_of_ble_eq_true rfl) (fun p e s m args below meth c C0 hP ls hl => ?_)
  have hx := C0.1
  have hb := C0.2.1
  have hl : lv_has ls 4 [(0, .ref (G.2.2 + x0)), (1, .int x1), (2, .int x2), (3, .int x3)] := hl
  have hS : va_S (fm_A G.2.2) s.heap s.heap [] := va_S.rf
  unfold f_Mo_report at h
  refine lv_aload_n hx hb d_Mo_report_0 rfl (lv_at hl 0 rfl) ?_
  obtain ⟨q129, e130, h⟩ := ob h
  refine k_gr C0 F_Mo_93 hP e130 d_Mo_report_1 ?_
  refine lv_iconst (v := 3) hx hb d_Mo_report_4 ic_3 ?_
  refine lv_iload_n hx hb d_Mo_report_5 rfl (lv_at hl 2 rfl) ?_
  refine lv_imul hx hb d_Mo_report_6 ?_
  refine lv_iload_n hx hb d_Mo_report_7 rfl (lv_at hl 1 rfl) ?_
  refine lv_iadd hx hb d_Mo_report_8 ?_
  refine lv_dup2_11 hx hb d_Mo_report_9 rfl rfl ?_
  obtain ⟨x131, e132, h⟩ := ob h
  refine k_aj C0 hP e132 d_Mo_report_10 ?_
  refine lv_lconst (v := 1) hx hb d_Mo_report_11 lc_1 ?_
  refine lv_ladd hx hb d_Mo_report_12 ?_
  obtain ⟨M133, e134, h⟩ := ob h
  refine k_sj C0 hP hS e134 d_Mo_report_13 (fun H locs hP hS => ?_)
  refine lv_aload_n hx hb d_Mo_report_14 rfl (lv_at hl 0 rfl) ?_
  obtain ⟨q135, e136, h⟩ := ob h
  refine k_gr C0 F_Mo_97 hP e136 d_Mo_report_15 ?_
  refine lv_iconst (v := 3) hx hb d_Mo_report_18 ic_3 ?_
  refine lv_iload_n hx hb d_Mo_report_19 rfl (lv_at hl 2 rfl) ?_
  refine lv_imul hx hb d_Mo_report_20 ?_
  refine lv_iload_n hx hb d_Mo_report_21 rfl (lv_at hl 1 rfl) ?_
  refine lv_iadd hx hb d_Mo_report_22 ?_
  refine lv_aload_n hx hb d_Mo_report_23 rfl (lv_at hl 0 rfl) ?_
  obtain ⟨q137, e138, h⟩ := ob h
  refine k_gr C0 F_Mo_97 hP e138 d_Mo_report_24 ?_
  refine lv_iconst (v := 3) hx hb d_Mo_report_27 ic_3 ?_
  refine lv_iload_n hx hb d_Mo_report_28 rfl (lv_at hl 2 rfl) ?_
  refine lv_imul hx hb d_Mo_report_29 ?_
  refine lv_iload_n hx hb d_Mo_report_30 rfl (lv_at hl 1 rfl) ?_
  refine lv_iadd hx hb d_Mo_report_31 ?_
  obtain ⟨x139, e140, h⟩ := ob h
  refine k_aj C0 hP e140 d_Mo_report_32 ?_
  refine lv_iload_n hx hb d_Mo_report_33 rfl (lv_at hl 3 rfl) ?_
  refine lv_i2l hx hb d_Mo_report_34 rfl ?_
  refine lv_ladd hx hb d_Mo_report_35 ?_
  obtain ⟨M141, e142, h⟩ := ob h
  refine k_sj C0 hP hS e142 d_Mo_report_36 (fun H locs hP hS => ?_)
  refine lv_aload_n hx hb d_Mo_report_37 rfl (lv_at hl 0 rfl) ?_
  obtain ⟨q143, e144, h⟩ := ob h
  refine k_gr C0 F_Mo_110 hP e144 d_Mo_report_38 ?_
  refine lv_iload_n hx hb d_Mo_report_41 rfl (lv_at hl 1 rfl) ?_
  refine lv_aload_n hx hb d_Mo_report_42 rfl (lv_at hl 0 rfl) ?_
  obtain ⟨q145, e146, h⟩ := ob h
  refine k_gr C0 F_Mo_110 hP e146 d_Mo_report_43 ?_
  refine lv_iload_n hx hb d_Mo_report_46 rfl (lv_at hl 1 rfl) ?_
  obtain ⟨x147, e148, h⟩ := ob h
  refine k_ai C0 hP e148 d_Mo_report_47 ?_
  refine lv_iload_n hx hb d_Mo_report_48 rfl (lv_at hl 3 rfl) ?_
  refine lv_isub hx hb d_Mo_report_49 ?_
  obtain ⟨M149, e150, h⟩ := ob h
  refine k_si C0 hP hS e150 d_Mo_report_50 (fun H locs hP hS => ?_)
  exact w_Mo_report_51 C0 100000 x0 x1 x2 hP hS (lv_sub hl [0, 1, 2] rfl) h
/-! AllocationProfilerModel.allocate -/
def rm_Mo_allocate : Room := { frames := 2, cells := 0, slots := 0, locals := 48 }
theorem d_Mo_allocate_0 : decode b_Mo_allocate 0 = .ok (.lload_n 3, 1) := by decide +kernel
theorem d_Mo_allocate_1 : decode b_Mo_allocate 1 = .ok (.lconst 0, 1) := by decide +kernel
theorem d_Mo_allocate_2 : decode b_Mo_allocate 2 = .ok (.lcmp, 1) := by decide +kernel
theorem d_Mo_allocate_3 : decode b_Mo_allocate 3 = .ok (.ifCond .lt 21, 3) := by decide +kernel
theorem d_Mo_allocate_6 : decode b_Mo_allocate 6 = .ok (.lload_n 3, 1) := by decide +kernel
theorem d_Mo_allocate_7 : decode b_Mo_allocate 7 = .ok (.ldc2_w 222, 3) := by decide +kernel
theorem d_Mo_allocate_10 : decode b_Mo_allocate 10 = .ok (.lcmp, 1) := by decide +kernel
theorem d_Mo_allocate_11 : decode b_Mo_allocate 11 = .ok (.ifCond .gt 13, 3) := by decide +kernel
theorem d_Mo_allocate_14 : decode b_Mo_allocate 14 = .ok (.aload_n 0, 1) := by decide +kernel
theorem d_Mo_allocate_15 : decode b_Mo_allocate 15 = .ok (.getfield 224, 3) := by decide +kernel
theorem d_Mo_allocate_18 : decode b_Mo_allocate 18 = .ok (.sipush 400, 3) := by decide +kernel
theorem d_Mo_allocate_21 : decode b_Mo_allocate 21 = .ok (.if_icmp .ne 10, 3) := by decide +kernel
theorem d_Mo_allocate_24 : decode b_Mo_allocate 24 = .ok (.aload_n 0, 1) := by decide +kernel
theorem d_Mo_allocate_25 : decode b_Mo_allocate 25 = .ok (.iload_n 1, 1) := by decide +kernel
theorem d_Mo_allocate_26 : decode b_Mo_allocate 26 = .ok (.iconst (-1), 1) := by decide +kernel
theorem d_Mo_allocate_27 : decode b_Mo_allocate 27 = .ok (.invokevirtual 227, 3) := by decide +kernel
theorem d_Mo_allocate_30 : decode b_Mo_allocate 30 = .ok (.return_, 1) := by decide +kernel
theorem d_Mo_allocate_31 : decode b_Mo_allocate 31 = .ok (.aload_n 0, 1) := by decide +kernel
theorem d_Mo_allocate_32 : decode b_Mo_allocate 32 = .ok (.dup, 1) := by decide +kernel
theorem d_Mo_allocate_33 : decode b_Mo_allocate 33 = .ok (.getfield 224, 3) := by decide +kernel
theorem d_Mo_allocate_36 : decode b_Mo_allocate 36 = .ok (.iconst 1, 1) := by decide +kernel
theorem d_Mo_allocate_37 : decode b_Mo_allocate 37 = .ok (.iadd, 1) := by decide +kernel
theorem d_Mo_allocate_38 : decode b_Mo_allocate 38 = .ok (.putfield 224, 3) := by decide +kernel
theorem d_Mo_allocate_41 : decode b_Mo_allocate 41 = .ok (.aload_n 0, 1) := by decide +kernel
theorem d_Mo_allocate_42 : decode b_Mo_allocate 42 = .ok (.getfield 90, 3) := by decide +kernel
theorem d_Mo_allocate_45 : decode b_Mo_allocate 45 = .ok (.aload_n 0, 1) := by decide +kernel
theorem d_Mo_allocate_46 : decode b_Mo_allocate 46 = .ok (.getfield 224, 3) := by decide +kernel
theorem d_Mo_allocate_49 : decode b_Mo_allocate 49 = .ok (.lload_n 3, 1) := by decide +kernel
theorem d_Mo_allocate_50 : decode b_Mo_allocate 50 = .ok (.l2i, 1) := by decide +kernel
theorem d_Mo_allocate_51 : decode b_Mo_allocate 51 = .ok (.iastore, 1) := by decide +kernel
theorem d_Mo_allocate_52 : decode b_Mo_allocate 52 = .ok (.aload_n 0, 1) := by decide +kernel
theorem d_Mo_allocate_53 : decode b_Mo_allocate 53 = .ok (.iload_n 2, 1) := by decide +kernel
theorem d_Mo_allocate_54 : decode b_Mo_allocate 54 = .ok (.aload_n 0, 1) := by decide +kernel
theorem d_Mo_allocate_55 : decode b_Mo_allocate 55 = .ok (.getfield 224, 3) := by decide +kernel
theorem d_Mo_allocate_58 : decode b_Mo_allocate 58 = .ok (.invokevirtual 209, 3) := by decide +kernel
theorem d_Mo_allocate_61 : decode b_Mo_allocate 61 = .ok (.bipush 28, 2) := by decide +kernel
theorem d_Mo_allocate_63 : decode b_Mo_allocate 63 = .ok (.aload_n 0, 1) := by decide +kernel
theorem d_Mo_allocate_64 : decode b_Mo_allocate 64 = .ok (.getfield 75, 3) := by decide +kernel
theorem d_Mo_allocate_67 : decode b_Mo_allocate 67 = .ok (.iload_n 2, 1) := by decide +kernel
theorem d_Mo_allocate_68 : decode b_Mo_allocate 68 = .ok (.iaload, 1) := by decide +kernel
theorem d_Mo_allocate_69 : decode b_Mo_allocate 69 = .ok (.imul, 1) := by decide +kernel
theorem d_Mo_allocate_70 : decode b_Mo_allocate 70 = .ok (.aload_n 0, 1) := by decide +kernel
theorem d_Mo_allocate_71 : decode b_Mo_allocate 71 = .ok (.getfield 78, 3) := by decide +kernel
theorem d_Mo_allocate_74 : decode b_Mo_allocate 74 = .ok (.iload_n 2, 1) := by decide +kernel
theorem d_Mo_allocate_75 : decode b_Mo_allocate 75 = .ok (.iaload, 1) := by decide +kernel
theorem d_Mo_allocate_76 : decode b_Mo_allocate 76 = .ok (.iadd, 1) := by decide +kernel
theorem d_Mo_allocate_77 : decode b_Mo_allocate 77 = .ok (.istore 5, 2) := by decide +kernel
theorem d_Mo_allocate_79 : decode b_Mo_allocate 79 = .ok (.aload_n 0, 1) := by decide +kernel
theorem d_Mo_allocate_80 : decode b_Mo_allocate 80 = .ok (.getfield 78, 3) := by decide +kernel
theorem d_Mo_allocate_83 : decode b_Mo_allocate 83 = .ok (.iload_n 2, 1) := by decide +kernel
theorem d_Mo_allocate_84 : decode b_Mo_allocate 84 = .ok (.iaload, 1) := by decide +kernel
theorem d_Mo_allocate_85 : decode b_Mo_allocate 85 = .ok (.aload_n 0, 1) := by decide +kernel
theorem d_Mo_allocate_86 : decode b_Mo_allocate 86 = .ok (.getfield 48, 3) := by decide +kernel
theorem d_Mo_allocate_89 : decode b_Mo_allocate 89 = .ok (.aload_n 0, 1) := by decide +kernel
theorem d_Mo_allocate_90 : decode b_Mo_allocate 90 = .ok (.getfield 75, 3) := by decide +kernel
theorem d_Mo_allocate_93 : decode b_Mo_allocate 93 = .ok (.iload_n 2, 1) := by decide +kernel
theorem d_Mo_allocate_94 : decode b_Mo_allocate 94 = .ok (.iaload, 1) := by decide +kernel
theorem d_Mo_allocate_95 : decode b_Mo_allocate 95 = .ok (.iaload, 1) := by decide +kernel
theorem d_Mo_allocate_96 : decode b_Mo_allocate 96 = .ok (.if_icmp .ge 39, 3) := by decide +kernel
theorem d_Mo_allocate_99 : decode b_Mo_allocate 99 = .ok (.aload_n 0, 1) := by decide +kernel
theorem d_Mo_allocate_100 : decode b_Mo_allocate 100 = .ok (.getfield 51, 3) := by decide +kernel
theorem d_Mo_allocate_103 : decode b_Mo_allocate 103 = .ok (.iload 5, 2) := by decide +kernel
theorem d_Mo_allocate_105 : decode b_Mo_allocate 105 = .ok (.iaload, 1) := by decide +kernel
theorem d_Mo_allocate_106 : decode b_Mo_allocate 106 = .ok (.bipush 16, 2) := by decide +kernel
theorem d_Mo_allocate_108 : decode b_Mo_allocate 108 = .ok (.if_icmp .ne 27, 3) := by decide +kernel
theorem d_Mo_allocate_111 : decode b_Mo_allocate 111 = .ok (.aload_n 0, 1) := by decide +kernel
theorem d_Mo_allocate_112 : decode b_Mo_allocate 112 = .ok (.getfield 78, 3) := by decide +kernel
theorem d_Mo_allocate_115 : decode b_Mo_allocate 115 = .ok (.iload_n 2, 1) := by decide +kernel
theorem d_Mo_allocate_116 : decode b_Mo_allocate 116 = .ok (.dup2, 1) := by decide +kernel
theorem d_Mo_allocate_117 : decode b_Mo_allocate 117 = .ok (.iaload, 1) := by decide +kernel
theorem d_Mo_allocate_118 : decode b_Mo_allocate 118 = .ok (.iconst 1, 1) := by decide +kernel
theorem d_Mo_allocate_119 : decode b_Mo_allocate 119 = .ok (.iadd, 1) := by decide +kernel
theorem d_Mo_allocate_120 : decode b_Mo_allocate 120 = .ok (.iastore, 1) := by decide +kernel
theorem d_Mo_allocate_121 : decode b_Mo_allocate 121 = .ok (.aload_n 0, 1) := by decide +kernel
theorem d_Mo_allocate_122 : decode b_Mo_allocate 122 = .ok (.iload_n 1, 1) := by decide +kernel
theorem d_Mo_allocate_123 : decode b_Mo_allocate 123 = .ok (.aload_n 0, 1) := by decide +kernel
theorem d_Mo_allocate_124 : decode b_Mo_allocate 124 = .ok (.getfield 54, 3) := by decide +kernel
theorem d_Mo_allocate_127 : decode b_Mo_allocate 127 = .ok (.iload 5, 2) := by decide +kernel
theorem d_Mo_allocate_129 : decode b_Mo_allocate 129 = .ok (.iaload, 1) := by decide +kernel
theorem d_Mo_allocate_130 : decode b_Mo_allocate 130 = .ok (.lload_n 3, 1) := by decide +kernel
theorem d_Mo_allocate_131 : decode b_Mo_allocate 131 = .ok (.l2i, 1) := by decide +kernel
theorem d_Mo_allocate_132 : decode b_Mo_allocate 132 = .ok (.invokevirtual 230, 3) := by decide +kernel
theorem d_Mo_allocate_135 : decode b_Mo_allocate 135 = .ok (.return_, 1) := by decide +kernel
def j_Mo_allocate_24 (x0 : Nat) (x1 : Int32) (M : fm_M) : Option fm_M :=
  (ck x0 10).bind fun _ =>
  (f_Mo_raise x0 x1 (-1) M).bind fun M102 =>
  some M102
def f_Mo_allocate (x0 : Nat) (x1 : Int32) (x2 : Int32) (x3 : Int64) (M : fm_M) : Option fm_M :=
  if (lg_cmp x3 0) < 0 then
    j_Mo_allocate_24 x0 x1 M
  else
    if 0 < (lg_cmp x3 100000) then
      j_Mo_allocate_24 x0 x1 M
    else
      (gi x0 10 35 M).bind fun x106 =>
      if x106 = 400 then
        j_Mo_allocate_24 x0 x1 M
      else
        (gi x0 10 35 M).bind fun x109 =>
        (pi x0 10 35 (x109 + 1) M).bind fun M111 =>
        (gr x0 10 36).bind fun q113 =>
        (gi x0 10 35 M111).bind fun x115 =>
        (si q113 x115 x3.toInt32 M111).bind fun M117 =>
        (gi x0 10 35 M117).bind fun x119 =>
        (ck x0 10).bind fun _ =>
        (f_Mo_push x0 x2 x119 M117).bind fun M122 =>
        (gr x0 10 28).bind fun q124 =>
        (ai q124 x2 M122).bind fun x126 =>
        (gr x0 10 29).bind fun q128 =>
        (ai q128 x2 M122).bind fun x130 =>
        (gr x0 10 29).bind fun q132 =>
        (ai q132 x2 M122).bind fun x134 =>
        (gr x0 10 18).bind fun q136 =>
        (gr x0 10 28).bind fun q138 =>
        (ai q138 x2 M122).bind fun x140 =>
        (ai q136 x140 M122).bind fun x142 =>
        if x142 ≤ x134 then
          some M122
        else
          (gr x0 10 19).bind fun q145 =>
          (ai q145 ((28 * x126) + x130) M122).bind fun x147 =>
          if x147 = 16 then
            (gr x0 10 29).bind fun q150 =>
            (ai q150 x2 M122).bind fun x152 =>
            (si q150 x2 (x152 + 1) M122).bind fun M154 =>
            (gr x0 10 20).bind fun q156 =>
            (ai q156 ((28 * x126) + x130) M154).bind fun x158 =>
            (ck x0 10).bind fun _ =>
            (f_Mo_report x0 x1 x158 x3.toInt32 M154).bind fun M161 =>
            some M161
          else
            some M122
set_option maxHeartbeats 4000000 in
set_option maxRecDepth 100000 in
theorem w_Mo_allocate_24 {p : Program} {l : Launch} {e : Env} {s : State} {m : MethodId} {args : Array Value} {below : List Frame} {meth : Method} {c : Code} {G : fm_G} (C0 : fm_C p s m args meth c G (.code y_Mo_allocate b_Mo_allocate 6 none) "AllocationProfilerModel" b_Mo_allocate 6 none) {M' : fm_M} (x0 : Nat) (x1 : Int32) {M : fm_M} {H : Heap} {locs : List Loc} (hP : kP G M H) (hS : kS G s H locs) {ls : Array Slot} (hl : lv_has ls 6 [(0, .ref (G.2.2 + x0)), (1, .int x1)]) (h : j_Mo_allocate_24 x0 x1 M = some M') : W p l e rm_Mo_allocate s m args below meth c H locs 0 0 (MQ below (fm_Q G 212 shF none M') args s 0 0 (fm_A G.2.2)) (F0 m 24 ls []) := by
  have hx := C0.1
  have hb := C0.2.1
  have hown := C0.2.2.2.2.1
  have hts := C0.2.2.2.2.2.1
  unfold j_Mo_allocate_24 at h
  refine lv_aload_n hx hb d_Mo_allocate_24 rfl (lv_at hl 0 rfl) ?_
  refine lv_iload_n hx hb d_Mo_allocate_25 rfl (lv_at hl 1 rfl) ?_
  refine lv_iconst (v := (-1)) hx hb d_Mo_allocate_26 ic_m1 ?_
  obtain ⟨_, e101, h⟩ := ob h
  obtain ⟨M102, e103, h⟩ := ob h
  refine k_cVv C0 L_Mo_227 (As := [.int x1, .int (-1)]) (c_Mo_raise l G x0 x1 (-1) e103) ⟨rfl, rfl⟩ ⟨Nat.le_of_ble_eq_true rfl, Nat.le_of_ble_eq_true rfl⟩ hP hS (ck_of e101) ly_Mo rfl hl.1 rfl (Nat.le_of_ble_eq_true rfl) d_Mo_allocate_27 ⟨Nat.zero_le _, Nat.zero_le _⟩ (fun H locs hP hS => ?_)
  cases h
  exact r_vret C0 hP hS d_Mo_allocate_30
set_option maxHeartbeats 4000000 in
set_option maxRecDepth 100000 in
theorem c_Mo_allocate (l : Launch) (G : fm_G) (x0 : Nat) (x1 : Int32) (x2 : Int32) (x3 : Int64) {M M' : fm_M} (h : f_Mo_allocate x0 x1 x2 x3 M = some M') : kMet l y_Mo_allocate b_Mo_allocate 6 none rm_Mo_allocate G M [.ref (G.2.2 + x0), .int x1, .int x2, .long x3] none M' := by
  refine r_met (by decide) rfl (Nat.le_of_ble_eq_true rfl) (fun p e s m args below meth c C0 hP ls hl => ?_)
  have hx := C0.1
  have hb := C0.2.1
  have hown := C0.2.2.2.2.1
  have hts := C0.2.2.2.2.2.1
  have hl : lv_has ls 6 [(0, .ref (G.2.2 + x0)), (1, .int x1), (2, .int x2), (3, .long x3)] := hl
  have hS : va_S (fm_A G.2.2) s.heap s.heap [] := va_S.rf
  unfold f_Mo_allocate at h
  refine lv_lload_n hx hb d_Mo_allocate_0 rfl (lv_at hl 3 rfl) ?_
  refine lv_lconst (v := 0) hx hb d_Mo_allocate_1 lc_0 ?_
  refine W.lcmp hx hb d_Mo_allocate_2 ?_
  refine lv_if_lt (tgt := 24) hx hb d_Mo_allocate_3 (by decide) (fun c104 => ?_) (fun c104 => ?_)
  · rw [if_pos c104] at h
    exact w_Mo_allocate_24 C0 x0 x1 hP hS (lv_sub hl [0, 1] rfl) h
  · rw [if_neg c104] at h
    refine lv_lload_n hx hb d_Mo_allocate_6 rfl (lv_at hl 3 rfl) ?_
    refine lv_ldc2 (v := 100000) hx hb hown (hts _ (List.mem_cons_of_mem _ (gT_in 1265 (by decide +kernel) rfl))) d_Mo_allocate_7 ?_
    refine W.lcmp hx hb d_Mo_allocate_10 ?_
    refine lv_if_gt (tgt := 24) hx hb d_Mo_allocate_11 (by decide) (fun c105 => ?_) (fun c105 => ?_)
    · rw [if_pos c105] at h
      exact w_Mo_allocate_24 C0 x0 x1 hP hS (lv_sub hl [0, 1] rfl) h
    · rw [if_neg c105] at h
      refine lv_aload_n hx hb d_Mo_allocate_14 rfl (lv_at hl 0 rfl) ?_
      obtain ⟨x106, e107, h⟩ := ob h
      refine k_gi C0 F_Mo_224 ik_10_35 hP e107 d_Mo_allocate_15 ?_
      refine lv_sipush (v := 400) hx hb d_Mo_allocate_18 sp_400 ?_
      refine lv_icmp_ne (tgt := 31) hx hb d_Mo_allocate_21 (by decide) (fun c108 => ?_) (fun c108 => ?_)
      · rw [if_neg c108] at h
        refine lv_aload_n hx hb d_Mo_allocate_31 rfl (lv_at hl 0 rfl) ?_
        refine lv_dup hx hb d_Mo_allocate_32 rfl ?_
        obtain ⟨x109, e110, h⟩ := ob h
        refine k_gi C0 F_Mo_224 ik_10_35 hP e110 d_Mo_allocate_33 ?_
        refine lv_iconst (v := 1) hx hb d_Mo_allocate_36 ic_1 ?_
        refine lv_iadd hx hb d_Mo_allocate_37 ?_
        obtain ⟨M111, e112, h⟩ := ob h
        refine k_pi C0 F_Mo_224p ik_10_35 hP hS e112 d_Mo_allocate_38 (fun H locs hP hS => ?_)
        refine lv_aload_n hx hb d_Mo_allocate_41 rfl (lv_at hl 0 rfl) ?_
        obtain ⟨q113, e114, h⟩ := ob h
        refine k_gr C0 F_Mo_90 hP e114 d_Mo_allocate_42 ?_
        refine lv_aload_n hx hb d_Mo_allocate_45 rfl (lv_at hl 0 rfl) ?_
        obtain ⟨x115, e116, h⟩ := ob h
        refine k_gi C0 F_Mo_224 ik_10_35 hP e116 d_Mo_allocate_46 ?_
        refine lv_lload_n hx hb d_Mo_allocate_49 rfl (lv_at hl 3 rfl) ?_
        refine lv_l2i hx hb d_Mo_allocate_50 rfl ?_
        obtain ⟨M117, e118, h⟩ := ob h
        refine k_si C0 hP hS e118 d_Mo_allocate_51 (fun H locs hP hS => ?_)
        refine lv_aload_n hx hb d_Mo_allocate_52 rfl (lv_at hl 0 rfl) ?_
        refine lv_iload_n hx hb d_Mo_allocate_53 rfl (lv_at hl 2 rfl) ?_
        refine lv_aload_n hx hb d_Mo_allocate_54 rfl (lv_at hl 0 rfl) ?_
        obtain ⟨x119, e120, h⟩ := ob h
        refine k_gi C0 F_Mo_224 ik_10_35 hP e120 d_Mo_allocate_55 ?_
        obtain ⟨_, e121, h⟩ := ob h
        obtain ⟨M122, e123, h⟩ := ob h
        refine k_cVv C0 L_Mo_209 (As := [.int x2, .int x119]) (c_Mo_push l G x0 x2 x119 e123) ⟨rfl, rfl⟩ ⟨Nat.le_of_ble_eq_true rfl, Nat.le_of_ble_eq_true rfl⟩ hP hS (ck_of e121) ly_Mo rfl hl.1 rfl (Nat.le_of_ble_eq_true rfl) d_Mo_allocate_58 ⟨Nat.zero_le _, Nat.zero_le _⟩ (fun H locs hP hS => ?_)
        refine lv_bipush (v := 28) hx hb d_Mo_allocate_61 bp_28 ?_
        refine lv_aload_n hx hb d_Mo_allocate_63 rfl (lv_at hl 0 rfl) ?_
        obtain ⟨q124, e125, h⟩ := ob h
        refine k_gr C0 F_Mo_75 hP e125 d_Mo_allocate_64 ?_
        refine lv_iload_n hx hb d_Mo_allocate_67 rfl (lv_at hl 2 rfl) ?_
        obtain ⟨x126, e127, h⟩ := ob h
        refine k_ai C0 hP e127 d_Mo_allocate_68 ?_
        refine lv_imul hx hb d_Mo_allocate_69 ?_
        refine lv_aload_n hx hb d_Mo_allocate_70 rfl (lv_at hl 0 rfl) ?_
        obtain ⟨q128, e129, h⟩ := ob h
        refine k_gr C0 F_Mo_78 hP e129 d_Mo_allocate_71 ?_
        refine lv_iload_n hx hb d_Mo_allocate_74 rfl (lv_at hl 2 rfl) ?_
        obtain ⟨x130, e131, h⟩ := ob h
        refine k_ai C0 hP e131 d_Mo_allocate_75 ?_
        refine lv_iadd hx hb d_Mo_allocate_76 ?_
        refine lv_istore (lv' := [(5, .int ((28 * x126) + x130)), (0, .ref (G.2.2 + x0)), (1, .int x1), (2, .int x2), (3, .long x3)]) hx hb d_Mo_allocate_77 hl (by decide) rfl (fun ls hl => ?_)
        refine lv_aload_n hx hb d_Mo_allocate_79 rfl (lv_at hl 1 rfl) ?_
        obtain ⟨q132, e133, h⟩ := ob h
        refine k_gr C0 F_Mo_78 hP e133 d_Mo_allocate_80 ?_
        refine lv_iload_n hx hb d_Mo_allocate_83 rfl (lv_at hl 3 rfl) ?_
        obtain ⟨x134, e135, h⟩ := ob h
        refine k_ai C0 hP e135 d_Mo_allocate_84 ?_
        refine lv_aload_n hx hb d_Mo_allocate_85 rfl (lv_at hl 1 rfl) ?_
        obtain ⟨q136, e137, h⟩ := ob h
        refine k_gr C0 F_Mo_48 hP e137 d_Mo_allocate_86 ?_
        refine lv_aload_n hx hb d_Mo_allocate_89 rfl (lv_at hl 1 rfl) ?_
        obtain ⟨q138, e139, h⟩ := ob h
        refine k_gr C0 F_Mo_75 hP e139 d_Mo_allocate_90 ?_
        refine lv_iload_n hx hb d_Mo_allocate_93 rfl (lv_at hl 3 rfl) ?_
        obtain ⟨x140, e141, h⟩ := ob h
        refine k_ai C0 hP e141 d_Mo_allocate_94 ?_
        obtain ⟨x142, e143, h⟩ := ob h
        refine k_ai C0 hP e143 d_Mo_allocate_95 ?_
        refine lv_icmp_ge (tgt := 135) hx hb d_Mo_allocate_96 (by decide) (fun c144 => ?_) (fun c144 => ?_)
        · rw [if_pos c144] at h
          cases h
          exact r_vret C0 hP hS d_Mo_allocate_135
        · rw [if_neg c144] at h
          refine lv_aload_n hx hb d_Mo_allocate_99 rfl (lv_at hl 1 rfl) ?_
          obtain ⟨q145, e146, h⟩ := ob h
          refine k_gr C0 F_Mo_51 hP e146 d_Mo_allocate_100 ?_
          refine lv_iload hx hb d_Mo_allocate_103 (lv_at hl 0 rfl) ?_
          obtain ⟨x147, e148, h⟩ := ob h
          refine k_ai C0 hP e148 d_Mo_allocate_105 ?_
          refine lv_bipush (v := 16) hx hb d_Mo_allocate_106 bp_16 ?_
          refine lv_icmp_ne (tgt := 135) hx hb d_Mo_allocate_108 (by decide) (fun c149 => ?_) (fun c149 => ?_)
          · rw [if_neg c149] at h
            cases h
            exact r_vret C0 hP hS d_Mo_allocate_135
          · rw [if_pos c149] at h
            refine lv_aload_n hx hb d_Mo_allocate_111 rfl (lv_at hl 1 rfl) ?_
            obtain ⟨q150, e151, h⟩ := ob h
            refine k_gr C0 F_Mo_78 hP e151 d_Mo_allocate_112 ?_
            refine lv_iload_n hx hb d_Mo_allocate_115 rfl (lv_at hl 3 rfl) ?_
            refine lv_dup2_11 hx hb d_Mo_allocate_116 rfl rfl ?_
            obtain ⟨x152, e153, h⟩ := ob h
            refine k_ai C0 hP e153 d_Mo_allocate_117 ?_
            refine lv_iconst (v := 1) hx hb d_Mo_allocate_118 ic_1 ?_
            refine lv_iadd hx hb d_Mo_allocate_119 ?_
            obtain ⟨M154, e155, h⟩ := ob h
            refine k_si C0 hP hS e155 d_Mo_allocate_120 (fun H locs hP hS => ?_)
            refine lv_aload_n hx hb d_Mo_allocate_121 rfl (lv_at hl 1 rfl) ?_
            refine lv_iload_n hx hb d_Mo_allocate_122 rfl (lv_at hl 2 rfl) ?_
            refine lv_aload_n hx hb d_Mo_allocate_123 rfl (lv_at hl 1 rfl) ?_
            obtain ⟨q156, e157, h⟩ := ob h
            refine k_gr C0 F_Mo_54 hP e157 d_Mo_allocate_124 ?_
            refine lv_iload hx hb d_Mo_allocate_127 (lv_at hl 0 rfl) ?_
            obtain ⟨x158, e159, h⟩ := ob h
            refine k_ai C0 hP e159 d_Mo_allocate_129 ?_
            refine lv_lload_n hx hb d_Mo_allocate_130 rfl (lv_at hl 4 rfl) ?_
            refine lv_l2i hx hb d_Mo_allocate_131 rfl ?_
            obtain ⟨_, e160, h⟩ := ob h
            obtain ⟨M161, e162, h⟩ := ob h
            refine k_cVv C0 L_Mo_230 (As := [.int x1, .int x158, .int x3.toInt32]) (c_Mo_report l G x0 x1 x158 x3.toInt32 e162) ⟨rfl, rfl⟩ ⟨Nat.le_of_ble_eq_true rfl, Nat.le_of_ble_eq_true rfl⟩ hP hS (ck_of e160) ly_Mo rfl hl.1 rfl (Nat.le_of_ble_eq_true rfl) d_Mo_allocate_132 ⟨Nat.zero_le _, Nat.zero_le _⟩ (fun H locs hP hS => ?_)
            cases h
            exact r_vret C0 hP hS d_Mo_allocate_135
      · rw [if_pos c108] at h
        exact w_Mo_allocate_24 C0 x0 x1 hP hS (lv_sub hl [0, 1] rfl) h
/-! AllocationProfilerModel.arraySize -/
def rm_Mo_arraySize : Room := { frames := 0, cells := 0, slots := 0, locals := 0 }
theorem d_Mo_arraySize_0 : decode b_Mo_arraySize 0 = .ok (.iload_n 0, 1) := by decide +kernel
theorem d_Mo_arraySize_1 : decode b_Mo_arraySize 1 = .ok (.ifCond .ge 7, 3) := by decide +kernel
theorem d_Mo_arraySize_4 : decode b_Mo_arraySize 4 = .ok (.ldc2_w 233, 3) := by decide +kernel
theorem d_Mo_arraySize_7 : decode b_Mo_arraySize 7 = .ok (.lreturn, 1) := by decide +kernel
theorem d_Mo_arraySize_8 : decode b_Mo_arraySize 8 = .ok (.ldc2_w 235, 3) := by decide +kernel
theorem d_Mo_arraySize_11 : decode b_Mo_arraySize 11 = .ok (.lconst 1, 1) := by decide +kernel
theorem d_Mo_arraySize_12 : decode b_Mo_arraySize 12 = .ok (.iload_n 0, 1) := by decide +kernel
theorem d_Mo_arraySize_13 : decode b_Mo_arraySize 13 = .ok (.i2l, 1) := by decide +kernel
theorem d_Mo_arraySize_14 : decode b_Mo_arraySize 14 = .ok (.lmul, 1) := by decide +kernel
theorem d_Mo_arraySize_15 : decode b_Mo_arraySize 15 = .ok (.iload_n 1, 1) := by decide +kernel
theorem d_Mo_arraySize_16 : decode b_Mo_arraySize 16 = .ok (.i2l, 1) := by decide +kernel
theorem d_Mo_arraySize_17 : decode b_Mo_arraySize 17 = .ok (.lmul, 1) := by decide +kernel
theorem d_Mo_arraySize_18 : decode b_Mo_arraySize 18 = .ok (.ladd, 1) := by decide +kernel
theorem d_Mo_arraySize_19 : decode b_Mo_arraySize 19 = .ok (.lstore_n 2, 1) := by decide +kernel
theorem d_Mo_arraySize_20 : decode b_Mo_arraySize 20 = .ok (.lload_n 2, 1) := by decide +kernel
theorem d_Mo_arraySize_21 : decode b_Mo_arraySize 21 = .ok (.ldc2_w 237, 3) := by decide +kernel
theorem d_Mo_arraySize_24 : decode b_Mo_arraySize 24 = .ok (.lrem, 1) := by decide +kernel
theorem d_Mo_arraySize_25 : decode b_Mo_arraySize 25 = .ok (.lconst 0, 1) := by decide +kernel
theorem d_Mo_arraySize_26 : decode b_Mo_arraySize 26 = .ok (.lcmp, 1) := by decide +kernel
theorem d_Mo_arraySize_27 : decode b_Mo_arraySize 27 = .ok (.ifCond .ne 7, 3) := by decide +kernel
theorem d_Mo_arraySize_30 : decode b_Mo_arraySize 30 = .ok (.lload_n 2, 1) := by decide +kernel
theorem d_Mo_arraySize_31 : decode b_Mo_arraySize 31 = .ok (.goto 14, 3) := by decide +kernel
theorem d_Mo_arraySize_34 : decode b_Mo_arraySize 34 = .ok (.lload_n 2, 1) := by decide +kernel
theorem d_Mo_arraySize_35 : decode b_Mo_arraySize 35 = .ok (.ldc2_w 237, 3) := by decide +kernel
theorem d_Mo_arraySize_38 : decode b_Mo_arraySize 38 = .ok (.ladd, 1) := by decide +kernel
theorem d_Mo_arraySize_39 : decode b_Mo_arraySize 39 = .ok (.lload_n 2, 1) := by decide +kernel
theorem d_Mo_arraySize_40 : decode b_Mo_arraySize 40 = .ok (.ldc2_w 237, 3) := by decide +kernel
theorem d_Mo_arraySize_43 : decode b_Mo_arraySize 43 = .ok (.lrem, 1) := by decide +kernel
theorem d_Mo_arraySize_44 : decode b_Mo_arraySize 44 = .ok (.lsub, 1) := by decide +kernel
theorem d_Mo_arraySize_45 : decode b_Mo_arraySize 45 = .ok (.lreturn, 1) := by decide +kernel
def f_Mo_arraySize (x0 : Int32) (x1 : Int32) (M : fm_M) : Option (Int64 × fm_M) :=
  if 0 ≤ x0 then
    if (lg_cmp ((16 + ((1 * x0.toInt64) * x1.toInt64)) - (16 + ((1 * x0.toInt64) * x1.toInt64)) / 8 * 8) 0) = 0 then
      some ((16 + ((1 * x0.toInt64) * x1.toInt64)), M)
    else
      some ((((16 + ((1 * x0.toInt64) * x1.toInt64)) + 8) - ((16 + ((1 * x0.toInt64) * x1.toInt64)) - (16 + ((1 * x0.toInt64) * x1.toInt64)) / 8 * 8)), M)
  else
    some ((-1), M)
set_option maxHeartbeats 4000000 in
set_option maxRecDepth 100000 in
theorem c_Mo_arraySize (l : Launch) (G : fm_G) (x0 : Int32) (x1 : Int32) {v : Int64} {M M' : fm_M} (h : f_Mo_arraySize x0 x1 M = some (v, M')) : kMet l y_Mo_arraySize b_Mo_arraySize 4 (some .long) rm_Mo_arraySize G M [.int x0, .int x1] (some (.long v)) M' := by
  refine r_met (by decide) rfl (Nat.le_of_ble_eq_true rfl) (fun p e s m args below meth c C0 hP ls hl => ?_)
  have hx := C0.1
  have hb := C0.2.1
  have hown := C0.2.2.2.2.1
  have hts := C0.2.2.2.2.2.1
  have hl : lv_has ls 4 [(0, .int x0), (1, .int x1)] := hl
  have hS : va_S (fm_A G.2.2) s.heap s.heap [] := va_S.rf
  unfold f_Mo_arraySize at h
  refine lv_iload_n hx hb d_Mo_arraySize_0 rfl (lv_at hl 0 rfl) ?_
  refine lv_if_ge (tgt := 8) hx hb d_Mo_arraySize_1 (by decide) (fun c101 => ?_) (fun c101 => ?_)
  · rw [if_pos c101] at h
    refine lv_ldc2 (v := 16) hx hb hown (hts _ (List.mem_cons_of_mem _ (gT_in 1294 (by decide +kernel) rfl))) d_Mo_arraySize_8 ?_
    refine lv_lconst (v := 1) hx hb d_Mo_arraySize_11 lc_1 ?_
    refine lv_iload_n hx hb d_Mo_arraySize_12 rfl (lv_at hl 0 rfl) ?_
    refine lv_i2l hx hb d_Mo_arraySize_13 rfl ?_
    refine lv_lmul hx hb d_Mo_arraySize_14 ?_
    refine lv_iload_n hx hb d_Mo_arraySize_15 rfl (lv_at hl 1 rfl) ?_
    refine lv_i2l hx hb d_Mo_arraySize_16 rfl ?_
    refine lv_lmul hx hb d_Mo_arraySize_17 ?_
    refine lv_ladd hx hb d_Mo_arraySize_18 ?_
    refine lv_lstore_n (lv' := [(2, .long (16 + ((1 * x0.toInt64) * x1.toInt64))), (0, .int x0), (1, .int x1)]) hx hb d_Mo_arraySize_19 rfl hl (by decide) rfl (fun ls hl => ?_)
    refine lv_lload_n hx hb d_Mo_arraySize_20 rfl (lv_at hl 0 rfl) ?_
    refine lv_ldc2 (v := 8) hx hb hown (hts _ (List.mem_cons_of_mem _ (gT_in 1295 (by decide +kernel) rfl))) d_Mo_arraySize_21 ?_
    refine lv_lrem hx hb d_Mo_arraySize_24 (by decide) ?_
    refine lv_lconst (v := 0) hx hb d_Mo_arraySize_25 lc_0 ?_
    refine W.lcmp hx hb d_Mo_arraySize_26 ?_
    refine lv_if_ne (tgt := 34) hx hb d_Mo_arraySize_27 (by decide) (fun c102 => ?_) (fun c102 => ?_)
    · rw [if_neg c102] at h
      refine lv_lload_n hx hb d_Mo_arraySize_34 rfl (lv_at hl 0 rfl) ?_
      refine lv_ldc2 (v := 8) hx hb hown (hts _ (List.mem_cons_of_mem _ (gT_in 1295 (by decide +kernel) rfl))) d_Mo_arraySize_35 ?_
      refine lv_ladd hx hb d_Mo_arraySize_38 ?_
      refine lv_lload_n hx hb d_Mo_arraySize_39 rfl (lv_at hl 0 rfl) ?_
      refine lv_ldc2 (v := 8) hx hb hown (hts _ (List.mem_cons_of_mem _ (gT_in 1295 (by decide +kernel) rfl))) d_Mo_arraySize_40 ?_
      refine lv_lrem hx hb d_Mo_arraySize_43 (by decide) ?_
      refine lv_lsub hx hb d_Mo_arraySize_44 ?_
      cases h
      exact r_lret C0 hP hS d_Mo_arraySize_45
    · rw [if_pos c102] at h
      refine lv_lload_n hx hb d_Mo_arraySize_30 rfl (lv_at hl 0 rfl) ?_
      refine lv_goto (tgt := 45) hx hb d_Mo_arraySize_31 (by decide) ?_
      cases h
      exact r_lret C0 hP hS d_Mo_arraySize_45
  · rw [if_neg c101] at h
    refine lv_ldc2 (v := (-1)) hx hb hown (hts _ (List.mem_cons_of_mem _ (gT_in 1293 (by decide +kernel) rfl))) d_Mo_arraySize_4 ?_
    cases h
    exact r_lret C0 hP hS d_Mo_arraySize_7
/-! AllocationProfilerModel.reckon -/
def rm_Mo_reckon : Room := { frames := 1, cells := 0, slots := 0, locals := 22 }
theorem d_Mo_reckon_0 : decode b_Mo_reckon 0 = .ok (.aload_n 0, 1) := by decide +kernel
theorem d_Mo_reckon_1 : decode b_Mo_reckon 1 = .ok (.iload_n 1, 1) := by decide +kernel
theorem d_Mo_reckon_2 : decode b_Mo_reckon 2 = .ok (.invokevirtual 239, 3) := by decide +kernel
theorem d_Mo_reckon_5 : decode b_Mo_reckon 5 = .ok (.istore 4, 2) := by decide +kernel
theorem d_Mo_reckon_7 : decode b_Mo_reckon 7 = .ok (.aload_n 0, 1) := by decide +kernel
theorem d_Mo_reckon_8 : decode b_Mo_reckon 8 = .ok (.iload_n 1, 1) := by decide +kernel
theorem d_Mo_reckon_9 : decode b_Mo_reckon 9 = .ok (.iload_n 2, 1) := by decide +kernel
theorem d_Mo_reckon_10 : decode b_Mo_reckon 10 = .ok (.iconst 3, 1) := by decide +kernel
theorem d_Mo_reckon_11 : decode b_Mo_reckon 11 = .ok (.if_icmp .ne 10, 3) := by decide +kernel
theorem d_Mo_reckon_14 : decode b_Mo_reckon 14 = .ok (.iload 4, 2) := by decide +kernel
theorem d_Mo_reckon_16 : decode b_Mo_reckon 16 = .ok (.iload_n 3, 1) := by decide +kernel
theorem d_Mo_reckon_17 : decode b_Mo_reckon 17 = .ok (.iadd, 1) := by decide +kernel
theorem d_Mo_reckon_18 : decode b_Mo_reckon 18 = .ok (.goto 19, 3) := by decide +kernel
theorem d_Mo_reckon_21 : decode b_Mo_reckon 21 = .ok (.iload_n 2, 1) := by decide +kernel
theorem d_Mo_reckon_22 : decode b_Mo_reckon 22 = .ok (.iconst 4, 1) := by decide +kernel
theorem d_Mo_reckon_23 : decode b_Mo_reckon 23 = .ok (.if_icmp .ne 10, 3) := by decide +kernel
theorem d_Mo_reckon_26 : decode b_Mo_reckon 26 = .ok (.iload 4, 2) := by decide +kernel
theorem d_Mo_reckon_28 : decode b_Mo_reckon 28 = .ok (.iload_n 3, 1) := by decide +kernel
theorem d_Mo_reckon_29 : decode b_Mo_reckon 29 = .ok (.isub, 1) := by decide +kernel
theorem d_Mo_reckon_30 : decode b_Mo_reckon 30 = .ok (.goto 7, 3) := by decide +kernel
theorem d_Mo_reckon_33 : decode b_Mo_reckon 33 = .ok (.iload 4, 2) := by decide +kernel
theorem d_Mo_reckon_35 : decode b_Mo_reckon 35 = .ok (.iload_n 3, 1) := by decide +kernel
theorem d_Mo_reckon_36 : decode b_Mo_reckon 36 = .ok (.imul, 1) := by decide +kernel
theorem d_Mo_reckon_37 : decode b_Mo_reckon 37 = .ok (.invokevirtual 209, 3) := by decide +kernel
theorem d_Mo_reckon_40 : decode b_Mo_reckon 40 = .ok (.return_, 1) := by decide +kernel
def j_Mo_reckon_37 (s0 : Nat) (s1 : Int32) (s2 : Int32) (M : fm_M) : Option fm_M :=
  (ck s0 10).bind fun _ =>
  (f_Mo_push s0 s1 s2 M).bind fun M102 =>
  some M102
def f_Mo_reckon (x0 : Nat) (x1 : Int32) (x2 : Int32) (x3 : Int32) (M : fm_M) : Option fm_M :=
  (ck x0 10).bind fun _ =>
  bd (f_Mo_pop x0 x1 M) fun x107 M105 =>
  if x2 = 3 then
    j_Mo_reckon_37 x0 x1 (x107 + x3) M105
  else
    if x2 = 4 then
      j_Mo_reckon_37 x0 x1 (x107 - x3) M105
    else
      j_Mo_reckon_37 x0 x1 (x107 * x3) M105
set_option maxHeartbeats 4000000 in
set_option maxRecDepth 100000 in
theorem w_Mo_reckon_37 {p : Program} {l : Launch} {e : Env} {s : State} {m : MethodId} {args : Array Value} {below : List Frame} {meth : Method} {c : Code} {G : fm_G} (C0 : fm_C p s m args meth c G (.code y_Mo_reckon b_Mo_reckon 5 none) "AllocationProfilerModel" b_Mo_reckon 5 none) {M' : fm_M} (s0 : Nat) (s1 : Int32) (s2 : Int32) {M : fm_M} {H : Heap} {locs : List Loc} (hP : kP G M H) (hS : kS G s H locs) {ls : Array Slot} (hl : lv_has ls 5 []) (h : j_Mo_reckon_37 s0 s1 s2 M = some M') : W p l e rm_Mo_reckon s m args below meth c H locs 0 0 (MQ below (fm_Q G 212 shF none M') args s 0 0 (fm_A G.2.2)) (F0 m 37 ls [.int s2, .int s1, .ref (G.2.2 + s0)]) := by
  have hx := C0.1
  have hb := C0.2.1
  unfold j_Mo_reckon_37 at h
  obtain ⟨_, e101, h⟩ := ob h
  obtain ⟨M102, e103, h⟩ := ob h
  refine k_cVv C0 L_Mo_209 (As := [.int s1, .int s2]) (c_Mo_push l G s0 s1 s2 e103) ⟨rfl, rfl⟩ ⟨Nat.le_of_ble_eq_true rfl, Nat.le_of_ble_eq_true rfl⟩ hP hS (ck_of e101) ly_Mo rfl hl.1 rfl (Nat.le_of_ble_eq_true rfl) d_Mo_reckon_37 ⟨Nat.zero_le _, Nat.zero_le _⟩ (fun H locs hP hS => ?_)
  cases h
  exact r_vret C0 hP hS d_Mo_reckon_40
set_option maxHeartbeats 4000000 in
set_option maxRecDepth 100000 in
theorem c_Mo_reckon (l : Launch) (G : fm_G) (x0 : Nat) (x1 : Int32) (x2 : Int32) (x3 : Int32) {M M' : fm_M} (h : f_Mo_reckon x0 x1 x2 x3 M = some M') : kMet l y_Mo_reckon b_Mo_reckon 5 none rm_Mo_reckon G M [.ref (G.2.2 + x0), .int x1, .int x2, .int x3] none M' := by
  refine r_met (by decide) rfl (Nat.le_of_ble_eq_true rfl) (fun p e s m args below meth c C0 hP ls hl => ?_)
  have hx := C0.1
  have hb := C0.2.1
  have hl : lv_has ls 5 [(0, .ref (G.2.2 + x0)), (1, .int x1), (2, .int x2), (3, .int x3)] := hl
  have hS : va_S (fm_A G.2.2) s.heap s.heap [] := va_S.rf
  unfold f_Mo_reckon at h
  refine lv_aload_n hx hb d_Mo_reckon_0 rfl (lv_at hl 0 rfl) ?_
  refine lv_iload_n hx hb d_Mo_reckon_1 rfl (lv_at hl 1 rfl) ?_
  obtain ⟨_, e104, h⟩ := ob h
  obtain ⟨x107, M105, e106, h⟩ := ob2 h
  refine k_cV C0 L_Mo_239 (As := [.int x1]) (c_Mo_pop l G x0 x1 e106) ⟨rfl, rfl⟩ ⟨Nat.le_of_ble_eq_true rfl, Nat.le_of_ble_eq_true rfl⟩ hP hS (ck_of e104) ly_Mo rfl hl.1 rfl (Nat.le_of_ble_eq_true rfl) d_Mo_reckon_2 ⟨Nat.zero_le _, Nat.zero_le _⟩ (fun H locs hP hS => ?_)
  refine lv_istore (lv' := [(4, .int x107), (0, .ref (G.2.2 + x0)), (1, .int x1), (2, .int x2), (3, .int x3)]) hx hb d_Mo_reckon_5 hl (by decide) rfl (fun ls hl => ?_)
  refine lv_aload_n hx hb d_Mo_reckon_7 rfl (lv_at hl 1 rfl) ?_
  refine lv_iload_n hx hb d_Mo_reckon_8 rfl (lv_at hl 2 rfl) ?_
  refine lv_iload_n hx hb d_Mo_reckon_9 rfl (lv_at hl 3 rfl) ?_
  refine lv_iconst (v := 3) hx hb d_Mo_reckon_10 ic_3 ?_
  refine lv_icmp_ne (tgt := 21) hx hb d_Mo_reckon_11 (by decide) (fun c108 => ?_) (fun c108 => ?_)
  · rw [if_neg c108] at h
    refine lv_iload_n hx hb d_Mo_reckon_21 rfl (lv_at hl 3 rfl) ?_
    refine lv_iconst (v := 4) hx hb d_Mo_reckon_22 ic_4 ?_
    refine lv_icmp_ne (tgt := 33) hx hb d_Mo_reckon_23 (by decide) (fun c109 => ?_) (fun c109 => ?_)
    · rw [if_neg c109] at h
      refine lv_iload hx hb d_Mo_reckon_33 (lv_at hl 0 rfl) ?_
      refine lv_iload_n hx hb d_Mo_reckon_35 rfl (lv_at hl 4 rfl) ?_
      refine lv_imul hx hb d_Mo_reckon_36 ?_
      exact w_Mo_reckon_37 C0 x0 x1 (x107 * x3) hP hS (lv_sub hl [] rfl) h
    · rw [if_pos c109] at h
      refine lv_iload hx hb d_Mo_reckon_26 (lv_at hl 0 rfl) ?_
      refine lv_iload_n hx hb d_Mo_reckon_28 rfl (lv_at hl 4 rfl) ?_
      refine lv_isub hx hb d_Mo_reckon_29 ?_
      refine lv_goto (tgt := 37) hx hb d_Mo_reckon_30 (by decide) ?_
      exact w_Mo_reckon_37 C0 x0 x1 (x107 - x3) hP hS (lv_sub hl [] rfl) h
  · rw [if_pos c108] at h
    refine lv_iload hx hb d_Mo_reckon_14 (lv_at hl 0 rfl) ?_
    refine lv_iload_n hx hb d_Mo_reckon_16 rfl (lv_at hl 4 rfl) ?_
    refine lv_iadd hx hb d_Mo_reckon_17 ?_
    refine lv_goto (tgt := 37) hx hb d_Mo_reckon_18 (by decide) ?_
    exact w_Mo_reckon_37 C0 x0 x1 (x107 + x3) hP hS (lv_sub hl [] rfl) h
/-! AllocationProfilerModel.leave -/
def rm_Mo_leave : Room := { frames := 1, cells := 0, slots := 0, locals := 22 }
theorem d_Mo_leave_0 : decode b_Mo_leave 0 = .ok (.aload_n 0, 1) := by decide +kernel
theorem d_Mo_leave_1 : decode b_Mo_leave 1 = .ok (.getfield 66, 3) := by decide +kernel
theorem d_Mo_leave_4 : decode b_Mo_leave 4 = .ok (.iload_n 1, 1) := by decide +kernel
theorem d_Mo_leave_5 : decode b_Mo_leave 5 = .ok (.dup2, 1) := by decide +kernel
theorem d_Mo_leave_6 : decode b_Mo_leave 6 = .ok (.iaload, 1) := by decide +kernel
theorem d_Mo_leave_7 : decode b_Mo_leave 7 = .ok (.iconst 1, 1) := by decide +kernel
theorem d_Mo_leave_8 : decode b_Mo_leave 8 = .ok (.isub, 1) := by decide +kernel
theorem d_Mo_leave_9 : decode b_Mo_leave 9 = .ok (.iastore, 1) := by decide +kernel
theorem d_Mo_leave_10 : decode b_Mo_leave 10 = .ok (.aload_n 0, 1) := by decide +kernel
theorem d_Mo_leave_11 : decode b_Mo_leave 11 = .ok (.getfield 66, 3) := by decide +kernel
theorem d_Mo_leave_14 : decode b_Mo_leave 14 = .ok (.iload_n 1, 1) := by decide +kernel
theorem d_Mo_leave_15 : decode b_Mo_leave 15 = .ok (.iaload, 1) := by decide +kernel
theorem d_Mo_leave_16 : decode b_Mo_leave 16 = .ok (.ifCond .le 21, 3) := by decide +kernel
theorem d_Mo_leave_19 : decode b_Mo_leave 19 = .ok (.aload_n 0, 1) := by decide +kernel
theorem d_Mo_leave_20 : decode b_Mo_leave 20 = .ok (.iconst 5, 1) := by decide +kernel
theorem d_Mo_leave_21 : decode b_Mo_leave 21 = .ok (.iload_n 1, 1) := by decide +kernel
theorem d_Mo_leave_22 : decode b_Mo_leave 22 = .ok (.imul, 1) := by decide +kernel
theorem d_Mo_leave_23 : decode b_Mo_leave 23 = .ok (.aload_n 0, 1) := by decide +kernel
theorem d_Mo_leave_24 : decode b_Mo_leave 24 = .ok (.getfield 66, 3) := by decide +kernel
theorem d_Mo_leave_27 : decode b_Mo_leave 27 = .ok (.iload_n 1, 1) := by decide +kernel
theorem d_Mo_leave_28 : decode b_Mo_leave 28 = .ok (.iaload, 1) := by decide +kernel
theorem d_Mo_leave_29 : decode b_Mo_leave 29 = .ok (.iadd, 1) := by decide +kernel
theorem d_Mo_leave_30 : decode b_Mo_leave 30 = .ok (.iconst 1, 1) := by decide +kernel
theorem d_Mo_leave_31 : decode b_Mo_leave 31 = .ok (.isub, 1) := by decide +kernel
theorem d_Mo_leave_32 : decode b_Mo_leave 32 = .ok (.iload_n 2, 1) := by decide +kernel
theorem d_Mo_leave_33 : decode b_Mo_leave 33 = .ok (.invokevirtual 209, 3) := by decide +kernel
theorem d_Mo_leave_36 : decode b_Mo_leave 36 = .ok (.return_, 1) := by decide +kernel
theorem d_Mo_leave_37 : decode b_Mo_leave 37 = .ok (.aload_n 0, 1) := by decide +kernel
theorem d_Mo_leave_38 : decode b_Mo_leave 38 = .ok (.getfield 69, 3) := by decide +kernel
theorem d_Mo_leave_41 : decode b_Mo_leave 41 = .ok (.iload_n 1, 1) := by decide +kernel
theorem d_Mo_leave_42 : decode b_Mo_leave 42 = .ok (.iconst 2, 1) := by decide +kernel
theorem d_Mo_leave_43 : decode b_Mo_leave 43 = .ok (.iastore, 1) := by decide +kernel
theorem d_Mo_leave_44 : decode b_Mo_leave 44 = .ok (.aload_n 0, 1) := by decide +kernel
theorem d_Mo_leave_45 : decode b_Mo_leave 45 = .ok (.getfield 72, 3) := by decide +kernel
theorem d_Mo_leave_48 : decode b_Mo_leave 48 = .ok (.iload_n 1, 1) := by decide +kernel
theorem d_Mo_leave_49 : decode b_Mo_leave 49 = .ok (.iload_n 2, 1) := by decide +kernel
theorem d_Mo_leave_50 : decode b_Mo_leave 50 = .ok (.iastore, 1) := by decide +kernel
theorem d_Mo_leave_51 : decode b_Mo_leave 51 = .ok (.return_, 1) := by decide +kernel
def f_Mo_leave (x0 : Nat) (x1 : Int32) (x2 : Int32) (M : fm_M) : Option fm_M :=
  (gr x0 10 25).bind fun q101 =>
  (ai q101 x1 M).bind fun x103 =>
  (si q101 x1 (x103 - 1) M).bind fun M105 =>
  (gr x0 10 25).bind fun q107 =>
  (ai q107 x1 M105).bind fun x109 =>
  if x109 ≤ 0 then
    (gr x0 10 26).bind fun q112 =>
    (si q112 x1 2 M105).bind fun M114 =>
    (gr x0 10 27).bind fun q116 =>
    (si q116 x1 x2 M114).bind fun M118 =>
    some M118
  else
    (gr x0 10 25).bind fun q120 =>
    (ai q120 x1 M105).bind fun x122 =>
    (ck x0 10).bind fun _ =>
    (f_Mo_push x0 (((5 * x1) + x122) - 1) x2 M105).bind fun M125 =>
    some M125
set_option maxHeartbeats 4000000 in
set_option maxRecDepth 100000 in
theorem c_Mo_leave (l : Launch) (G : fm_G) (x0 : Nat) (x1 : Int32) (x2 : Int32) {M M' : fm_M} (h : f_Mo_leave x0 x1 x2 M = some M') : kMet l y_Mo_leave b_Mo_leave 3 none rm_Mo_leave G M [.ref (G.2.2 + x0), .int x1, .int x2] none M' := by
  refine r_met (by decide) rfl (Nat.le_of_ble_eq_true rfl) (fun p e s m args below meth c C0 hP ls hl => ?_)
  have hx := C0.1
  have hb := C0.2.1
  have hl : lv_has ls 3 [(0, .ref (G.2.2 + x0)), (1, .int x1), (2, .int x2)] := hl
  have hS : va_S (fm_A G.2.2) s.heap s.heap [] := va_S.rf
  unfold f_Mo_leave at h
  refine lv_aload_n hx hb d_Mo_leave_0 rfl (lv_at hl 0 rfl) ?_
  obtain ⟨q101, e102, h⟩ := ob h
  refine k_gr C0 F_Mo_66 hP e102 d_Mo_leave_1 ?_
  refine lv_iload_n hx hb d_Mo_leave_4 rfl (lv_at hl 1 rfl) ?_
  refine lv_dup2_11 hx hb d_Mo_leave_5 rfl rfl ?_
  obtain ⟨x103, e104, h⟩ := ob h
  refine k_ai C0 hP e104 d_Mo_leave_6 ?_
  refine lv_iconst (v := 1) hx hb d_Mo_leave_7 ic_1 ?_
  refine lv_isub hx hb d_Mo_leave_8 ?_
  obtain ⟨M105, e106, h⟩ := ob h
  refine k_si C0 hP hS e106 d_Mo_leave_9 (fun H locs hP hS => ?_)
  refine lv_aload_n hx hb d_Mo_leave_10 rfl (lv_at hl 0 rfl) ?_
  obtain ⟨q107, e108, h⟩ := ob h
  refine k_gr C0 F_Mo_66 hP e108 d_Mo_leave_11 ?_
  refine lv_iload_n hx hb d_Mo_leave_14 rfl (lv_at hl 1 rfl) ?_
  obtain ⟨x109, e110, h⟩ := ob h
  refine k_ai C0 hP e110 d_Mo_leave_15 ?_
  refine lv_if_le (tgt := 37) hx hb d_Mo_leave_16 (by decide) (fun c111 => ?_) (fun c111 => ?_)
  · rw [if_pos c111] at h
    refine lv_aload_n hx hb d_Mo_leave_37 rfl (lv_at hl 0 rfl) ?_
    obtain ⟨q112, e113, h⟩ := ob h
    refine k_gr C0 F_Mo_69 hP e113 d_Mo_leave_38 ?_
    refine lv_iload_n hx hb d_Mo_leave_41 rfl (lv_at hl 1 rfl) ?_
    refine lv_iconst (v := 2) hx hb d_Mo_leave_42 ic_2 ?_
    obtain ⟨M114, e115, h⟩ := ob h
    refine k_si C0 hP hS e115 d_Mo_leave_43 (fun H locs hP hS => ?_)
    refine lv_aload_n hx hb d_Mo_leave_44 rfl (lv_at hl 0 rfl) ?_
    obtain ⟨q116, e117, h⟩ := ob h
    refine k_gr C0 F_Mo_72 hP e117 d_Mo_leave_45 ?_
    refine lv_iload_n hx hb d_Mo_leave_48 rfl (lv_at hl 1 rfl) ?_
    refine lv_iload_n hx hb d_Mo_leave_49 rfl (lv_at hl 2 rfl) ?_
    obtain ⟨M118, e119, h⟩ := ob h
    refine k_si C0 hP hS e119 d_Mo_leave_50 (fun H locs hP hS => ?_)
    cases h
    exact r_vret C0 hP hS d_Mo_leave_51
  · rw [if_neg c111] at h
    refine lv_aload_n hx hb d_Mo_leave_19 rfl (lv_at hl 0 rfl) ?_
    refine lv_iconst (v := 5) hx hb d_Mo_leave_20 ic_5 ?_
    refine lv_iload_n hx hb d_Mo_leave_21 rfl (lv_at hl 1 rfl) ?_
    refine lv_imul hx hb d_Mo_leave_22 ?_
    refine lv_aload_n hx hb d_Mo_leave_23 rfl (lv_at hl 0 rfl) ?_
    obtain ⟨q120, e121, h⟩ := ob h
    refine k_gr C0 F_Mo_66 hP e121 d_Mo_leave_24 ?_
    refine lv_iload_n hx hb d_Mo_leave_27 rfl (lv_at hl 1 rfl) ?_
    obtain ⟨x122, e123, h⟩ := ob h
    refine k_ai C0 hP e123 d_Mo_leave_28 ?_
    refine lv_iadd hx hb d_Mo_leave_29 ?_
    refine lv_iconst (v := 1) hx hb d_Mo_leave_30 ic_1 ?_
    refine lv_isub hx hb d_Mo_leave_31 ?_
    refine lv_iload_n hx hb d_Mo_leave_32 rfl (lv_at hl 2 rfl) ?_
    obtain ⟨_, e124, h⟩ := ob h
    obtain ⟨M125, e126, h⟩ := ob h
    refine k_cVv C0 L_Mo_209 (As := [.int (((5 * x1) + x122) - 1), .int x2]) (c_Mo_push l G x0 (((5 * x1) + x122) - 1) x2 e126) ⟨rfl, rfl⟩ ⟨Nat.le_of_ble_eq_true rfl, Nat.le_of_ble_eq_true rfl⟩ hP hS (ck_of e124) ly_Mo rfl hl.1 rfl (Nat.le_of_ble_eq_true rfl) d_Mo_leave_33 ⟨Nat.zero_le _, Nat.zero_le _⟩ (fun H locs hP hS => ?_)
    cases h
    exact r_vret C0 hP hS d_Mo_leave_36
/-! AllocationProfilerModel.take -/
def rm_Mo_take : Room := { frames := 3, cells := 0, slots := 0, locals := 73 }
theorem d_Mo_take_0 : decode b_Mo_take 0 = .ok (.iload_n 3, 1) := by decide +kernel
theorem d_Mo_take_1 : decode b_Mo_take 1 = .ok (.bipush 9, 2) := by decide +kernel
theorem d_Mo_take_3 : decode b_Mo_take 3 = .ok (.if_icmp .ne 8, 3) := by decide +kernel
theorem d_Mo_take_6 : decode b_Mo_take 6 = .ok (.iload 5, 2) := by decide +kernel
theorem d_Mo_take_8 : decode b_Mo_take 8 = .ok (.ifCond .eq 14, 3) := by decide +kernel
theorem d_Mo_take_11 : decode b_Mo_take 11 = .ok (.iload_n 3, 1) := by decide +kernel
theorem d_Mo_take_12 : decode b_Mo_take 12 = .ok (.bipush 10, 2) := by decide +kernel
theorem d_Mo_take_14 : decode b_Mo_take 14 = .ok (.if_icmp .ne 16, 3) := by decide +kernel
theorem d_Mo_take_17 : decode b_Mo_take 17 = .ok (.iload 5, 2) := by decide +kernel
theorem d_Mo_take_19 : decode b_Mo_take 19 = .ok (.ifCond .ge 11, 3) := by decide +kernel
theorem d_Mo_take_22 : decode b_Mo_take 22 = .ok (.aload_n 0, 1) := by decide +kernel
theorem d_Mo_take_23 : decode b_Mo_take 23 = .ok (.getfield 78, 3) := by decide +kernel
theorem d_Mo_take_26 : decode b_Mo_take 26 = .ok (.iload_n 2, 1) := by decide +kernel
theorem d_Mo_take_27 : decode b_Mo_take 27 = .ok (.iload 4, 2) := by decide +kernel
theorem d_Mo_take_29 : decode b_Mo_take 29 = .ok (.iastore, 1) := by decide +kernel
theorem d_Mo_take_30 : decode b_Mo_take 30 = .ok (.iload_n 3, 1) := by decide +kernel
theorem d_Mo_take_31 : decode b_Mo_take 31 = .ok (.bipush 12, 2) := by decide +kernel
theorem d_Mo_take_33 : decode b_Mo_take 33 = .ok (.if_icmp .ne 16, 3) := by decide +kernel
theorem d_Mo_take_36 : decode b_Mo_take 36 = .ok (.aload_n 0, 1) := by decide +kernel
theorem d_Mo_take_37 : decode b_Mo_take 37 = .ok (.iload_n 1, 1) := by decide +kernel
theorem d_Mo_take_38 : decode b_Mo_take 38 = .ok (.iload_n 2, 1) := by decide +kernel
theorem d_Mo_take_39 : decode b_Mo_take 39 = .ok (.iload 5, 2) := by decide +kernel
theorem d_Mo_take_41 : decode b_Mo_take 41 = .ok (.iload 4, 2) := by decide +kernel
theorem d_Mo_take_43 : decode b_Mo_take 43 = .ok (.invokestatic 253, 3) := by decide +kernel
theorem d_Mo_take_46 : decode b_Mo_take 46 = .ok (.invokevirtual 245, 3) := by decide +kernel
theorem d_Mo_take_49 : decode b_Mo_take 49 = .ok (.iload_n 3, 1) := by decide +kernel
theorem d_Mo_take_50 : decode b_Mo_take 50 = .ok (.bipush 13, 2) := by decide +kernel
theorem d_Mo_take_52 : decode b_Mo_take 52 = .ok (.if_icmp .ne 23, 3) := by decide +kernel
theorem d_Mo_take_55 : decode b_Mo_take 55 = .ok (.aload_n 0, 1) := by decide +kernel
theorem d_Mo_take_56 : decode b_Mo_take 56 = .ok (.getfield 66, 3) := by decide +kernel
theorem d_Mo_take_59 : decode b_Mo_take 59 = .ok (.iload_n 1, 1) := by decide +kernel
theorem d_Mo_take_60 : decode b_Mo_take 60 = .ok (.iaload, 1) := by decide +kernel
theorem d_Mo_take_61 : decode b_Mo_take 61 = .ok (.iconst 5, 1) := by decide +kernel
theorem d_Mo_take_62 : decode b_Mo_take 62 = .ok (.if_icmp .ne 13, 3) := by decide +kernel
theorem d_Mo_take_65 : decode b_Mo_take 65 = .ok (.aload_n 0, 1) := by decide +kernel
theorem d_Mo_take_66 : decode b_Mo_take 66 = .ok (.iload_n 1, 1) := by decide +kernel
theorem d_Mo_take_67 : decode b_Mo_take 67 = .ok (.bipush (-2), 2) := by decide +kernel
theorem d_Mo_take_69 : decode b_Mo_take 69 = .ok (.invokevirtual 227, 3) := by decide +kernel
theorem d_Mo_take_72 : decode b_Mo_take 72 = .ok (.goto 18, 3) := by decide +kernel
theorem d_Mo_take_75 : decode b_Mo_take 75 = .ok (.iload_n 3, 1) := by decide +kernel
theorem d_Mo_take_76 : decode b_Mo_take 76 = .ok (.bipush 13, 2) := by decide +kernel
theorem d_Mo_take_78 : decode b_Mo_take 78 = .ok (.if_icmp .ne 12, 3) := by decide +kernel
theorem d_Mo_take_81 : decode b_Mo_take 81 = .ok (.aload_n 0, 1) := by decide +kernel
theorem d_Mo_take_82 : decode b_Mo_take 82 = .ok (.iload_n 1, 1) := by decide +kernel
theorem d_Mo_take_83 : decode b_Mo_take 83 = .ok (.iload 4, 2) := by decide +kernel
theorem d_Mo_take_85 : decode b_Mo_take 85 = .ok (.iload 5, 2) := by decide +kernel
theorem d_Mo_take_87 : decode b_Mo_take 87 = .ok (.invokevirtual 202, 3) := by decide +kernel
theorem d_Mo_take_90 : decode b_Mo_take 90 = .ok (.iload_n 3, 1) := by decide +kernel
theorem d_Mo_take_91 : decode b_Mo_take 91 = .ok (.bipush 14, 2) := by decide +kernel
theorem d_Mo_take_93 : decode b_Mo_take 93 = .ok (.if_icmp .ne 10, 3) := by decide +kernel
theorem d_Mo_take_96 : decode b_Mo_take 96 = .ok (.aload_n 0, 1) := by decide +kernel
theorem d_Mo_take_97 : decode b_Mo_take 97 = .ok (.iload_n 1, 1) := by decide +kernel
theorem d_Mo_take_98 : decode b_Mo_take 98 = .ok (.iload 5, 2) := by decide +kernel
theorem d_Mo_take_100 : decode b_Mo_take 100 = .ok (.invokevirtual 257, 3) := by decide +kernel
theorem d_Mo_take_103 : decode b_Mo_take 103 = .ok (.iload_n 3, 1) := by decide +kernel
theorem d_Mo_take_104 : decode b_Mo_take 104 = .ok (.bipush 15, 2) := by decide +kernel
theorem d_Mo_take_106 : decode b_Mo_take 106 = .ok (.if_icmp .ne 10, 3) := by decide +kernel
theorem d_Mo_take_109 : decode b_Mo_take 109 = .ok (.aload_n 0, 1) := by decide +kernel
theorem d_Mo_take_110 : decode b_Mo_take 110 = .ok (.iload_n 1, 1) := by decide +kernel
theorem d_Mo_take_111 : decode b_Mo_take 111 = .ok (.iload 5, 2) := by decide +kernel
theorem d_Mo_take_113 : decode b_Mo_take 113 = .ok (.invokevirtual 227, 3) := by decide +kernel
theorem d_Mo_take_116 : decode b_Mo_take 116 = .ok (.return_, 1) := by decide +kernel
def j_Mo_take_103 (x0 : Nat) (x1 : Int32) (x3 : Int32) (x5 : Int32) (M : fm_M) : Option fm_M :=
  if x3 = 15 then
    (ck x0 10).bind fun _ =>
    (f_Mo_raise x0 x1 x5 M).bind fun M103 =>
    some M103
  else
    some M
def j_Mo_take_90 (x0 : Nat) (x1 : Int32) (x3 : Int32) (x5 : Int32) (M : fm_M) : Option fm_M :=
  if x3 = 14 then
    (ck x0 10).bind fun _ =>
    (f_Mo_leave x0 x1 x5 M).bind fun M107 =>
    j_Mo_take_103 x0 x1 x3 x5 M107
  else
    j_Mo_take_103 x0 x1 x3 x5 M
def j_Mo_take_75 (x0 : Nat) (x1 : Int32) (x3 : Int32) (x4 : Int32) (x5 : Int32) (M : fm_M) : Option fm_M :=
  if x3 = 13 then
    (ck x0 10).bind fun _ =>
    (f_Mo_enter x0 x1 x4 x5 M).bind fun M111 =>
    j_Mo_take_90 x0 x1 x3 x5 M111
  else
    j_Mo_take_90 x0 x1 x3 x5 M
def j_Mo_take_49 (x0 : Nat) (x1 : Int32) (x3 : Int32) (x4 : Int32) (x5 : Int32) (M : fm_M) : Option fm_M :=
  if x3 = 13 then
    (gr x0 10 25).bind fun q114 =>
    (ai q114 x1 M).bind fun x116 =>
    if x116 = 5 then
      (ck x0 10).bind fun _ =>
      (f_Mo_raise x0 x1 (-2) M).bind fun M120 =>
      j_Mo_take_90 x0 x1 x3 x5 M120
    else
      j_Mo_take_75 x0 x1 x3 x4 x5 M
  else
    j_Mo_take_75 x0 x1 x3 x4 x5 M
def j_Mo_take_30 (x0 : Nat) (x1 : Int32) (x2 : Int32) (x3 : Int32) (x4 : Int32) (x5 : Int32) (M : fm_M) : Option fm_M :=
  if x3 = 12 then
    bd (f_Mo_arraySize x5 x4 M) fun x125 M123 =>
    (ck x0 10).bind fun _ =>
    (f_Mo_allocate x0 x1 x2 x125 M123).bind fun M127 =>
    j_Mo_take_49 x0 x1 x3 x4 x5 M127
  else
    j_Mo_take_49 x0 x1 x3 x4 x5 M
def j_Mo_take_22 (x0 : Nat) (x1 : Int32) (x2 : Int32) (x3 : Int32) (x4 : Int32) (x5 : Int32) (M : fm_M) : Option fm_M :=
  (gr x0 10 29).bind fun q129 =>
  (si q129 x2 x4 M).bind fun M131 =>
  j_Mo_take_30 x0 x1 x2 x3 x4 x5 M131
def j_Mo_take_11 (x0 : Nat) (x1 : Int32) (x2 : Int32) (x3 : Int32) (x4 : Int32) (x5 : Int32) (M : fm_M) : Option fm_M :=
  if x3 = 10 then
    if 0 ≤ x5 then
      j_Mo_take_30 x0 x1 x2 x3 x4 x5 M
    else
      j_Mo_take_22 x0 x1 x2 x3 x4 x5 M
  else
    j_Mo_take_30 x0 x1 x2 x3 x4 x5 M
def f_Mo_take (x0 : Nat) (x1 : Int32) (x2 : Int32) (x3 : Int32) (x4 : Int32) (x5 : Int32) (M : fm_M) : Option fm_M :=
  if x3 = 9 then
    if x5 = 0 then
      j_Mo_take_22 x0 x1 x2 x3 x4 x5 M
    else
      j_Mo_take_11 x0 x1 x2 x3 x4 x5 M
  else
    j_Mo_take_11 x0 x1 x2 x3 x4 x5 M
set_option maxHeartbeats 4000000 in
set_option maxRecDepth 100000 in
theorem w_Mo_take_103 {p : Program} {l : Launch} {e : Env} {s : State} {m : MethodId} {args : Array Value} {below : List Frame} {meth : Method} {c : Code} {G : fm_G} (C0 : fm_C p s m args meth c G (.code y_Mo_take b_Mo_take 6 none) "AllocationProfilerModel" b_Mo_take 6 none) {M' : fm_M} (x0 : Nat) (x1 : Int32) (x3 : Int32) (x5 : Int32) {M : fm_M} {H : Heap} {locs : List Loc} (hP : kP G M H) (hS : kS G s H locs) {ls : Array Slot} (hl : lv_has ls 6 [(0, .ref (G.2.2 + x0)), (1, .int x1), (3, .int x3), (5, .int x5)]) (h : j_Mo_take_103 x0 x1 x3 x5 M = some M') : W p l e rm_Mo_take s m args below meth c H locs 0 0 (MQ below (fm_Q G 212 shF none M') args s 0 0 (fm_A G.2.2)) (F0 m 103 ls []) := by
  have hx := C0.1
  have hb := C0.2.1
  unfold j_Mo_take_103 at h
  refine lv_iload_n hx hb d_Mo_take_103 rfl (lv_at hl 2 rfl) ?_
  refine lv_bipush (v := 15) hx hb d_Mo_take_104 bp_15 ?_
  refine lv_icmp_ne (tgt := 116) hx hb d_Mo_take_106 (by decide) (fun c101 => ?_) (fun c101 => ?_)
  · rw [if_neg c101] at h
    cases h
    exact r_vret C0 hP hS d_Mo_take_116
  · rw [if_pos c101] at h
    refine lv_aload_n hx hb d_Mo_take_109 rfl (lv_at hl 0 rfl) ?_
    refine lv_iload_n hx hb d_Mo_take_110 rfl (lv_at hl 1 rfl) ?_
    refine lv_iload hx hb d_Mo_take_111 (lv_at hl 3 rfl) ?_
    obtain ⟨_, e102, h⟩ := ob h
    obtain ⟨M103, e104, h⟩ := ob h
    refine k_cVv C0 L_Mo_227 (As := [.int x1, .int x5]) (c_Mo_raise l G x0 x1 x5 e104) ⟨rfl, rfl⟩ ⟨Nat.le_of_ble_eq_true rfl, Nat.le_of_ble_eq_true rfl⟩ hP hS (ck_of e102) ly_Mo rfl hl.1 rfl (Nat.le_of_ble_eq_true rfl) d_Mo_take_113 ⟨Nat.zero_le _, Nat.zero_le _⟩ (fun H locs hP hS => ?_)
    cases h
    exact r_vret C0 hP hS d_Mo_take_116
set_option maxHeartbeats 4000000 in
set_option maxRecDepth 100000 in
theorem w_Mo_take_90 {p : Program} {l : Launch} {e : Env} {s : State} {m : MethodId} {args : Array Value} {below : List Frame} {meth : Method} {c : Code} {G : fm_G} (C0 : fm_C p s m args meth c G (.code y_Mo_take b_Mo_take 6 none) "AllocationProfilerModel" b_Mo_take 6 none) {M' : fm_M} (x0 : Nat) (x1 : Int32) (x3 : Int32) (x5 : Int32) {M : fm_M} {H : Heap} {locs : List Loc} (hP : kP G M H) (hS : kS G s H locs) {ls : Array Slot} (hl : lv_has ls 6 [(0, .ref (G.2.2 + x0)), (1, .int x1), (3, .int x3), (5, .int x5)]) (h : j_Mo_take_90 x0 x1 x3 x5 M = some M') : W p l e rm_Mo_take s m args below meth c H locs 0 0 (MQ below (fm_Q G 212 shF none M') args s 0 0 (fm_A G.2.2)) (F0 m 90 ls []) := by
  have hx := C0.1
  have hb := C0.2.1
  unfold j_Mo_take_90 at h
  refine lv_iload_n hx hb d_Mo_take_90 rfl (lv_at hl 2 rfl) ?_
  refine lv_bipush (v := 14) hx hb d_Mo_take_91 bp_14 ?_
  refine lv_icmp_ne (tgt := 103) hx hb d_Mo_take_93 (by decide) (fun c105 => ?_) (fun c105 => ?_)
  · rw [if_neg c105] at h
    exact w_Mo_take_103 C0 x0 x1 x3 x5 hP hS (lv_sub hl [0, 1, 2, 3] rfl) h
  · rw [if_pos c105] at h
    refine lv_aload_n hx hb d_Mo_take_96 rfl (lv_at hl 0 rfl) ?_
    refine lv_iload_n hx hb d_Mo_take_97 rfl (lv_at hl 1 rfl) ?_
    refine lv_iload hx hb d_Mo_take_98 (lv_at hl 3 rfl) ?_
    obtain ⟨_, e106, h⟩ := ob h
    obtain ⟨M107, e108, h⟩ := ob h
    refine k_cVv C0 L_Mo_257 (As := [.int x1, .int x5]) (c_Mo_leave l G x0 x1 x5 e108) ⟨rfl, rfl⟩ ⟨Nat.le_of_ble_eq_true rfl, Nat.le_of_ble_eq_true rfl⟩ hP hS (ck_of e106) ly_Mo rfl hl.1 rfl (Nat.le_of_ble_eq_true rfl) d_Mo_take_100 ⟨Nat.zero_le _, Nat.zero_le _⟩ (fun H locs hP hS => ?_)
    exact w_Mo_take_103 C0 x0 x1 x3 x5 hP hS (lv_sub hl [0, 1, 2, 3] rfl) h
set_option maxHeartbeats 4000000 in
set_option maxRecDepth 100000 in
theorem w_Mo_take_75 {p : Program} {l : Launch} {e : Env} {s : State} {m : MethodId} {args : Array Value} {below : List Frame} {meth : Method} {c : Code} {G : fm_G} (C0 : fm_C p s m args meth c G (.code y_Mo_take b_Mo_take 6 none) "AllocationProfilerModel" b_Mo_take 6 none) {M' : fm_M} (x0 : Nat) (x1 : Int32) (x3 : Int32) (x4 : Int32) (x5 : Int32) {M : fm_M} {H : Heap} {locs : List Loc} (hP : kP G M H) (hS : kS G s H locs) {ls : Array Slot} (hl : lv_has ls 6 [(0, .ref (G.2.2 + x0)), (1, .int x1), (3, .int x3), (4, .int x4), (5, .int x5)]) (h : j_Mo_take_75 x0 x1 x3 x4 x5 M = some M') : W p l e rm_Mo_take s m args below meth c H locs 0 0 (MQ below (fm_Q G 212 shF none M') args s 0 0 (fm_A G.2.2)) (F0 m 75 ls []) := by
  have hx := C0.1
  have hb := C0.2.1
  unfold j_Mo_take_75 at h
  refine lv_iload_n hx hb d_Mo_take_75 rfl (lv_at hl 2 rfl) ?_
  refine lv_bipush (v := 13) hx hb d_Mo_take_76 bp_13 ?_
  refine lv_icmp_ne (tgt := 90) hx hb d_Mo_take_78 (by decide) (fun c109 => ?_) (fun c109 => ?_)
  · rw [if_neg c109] at h
    exact w_Mo_take_90 C0 x0 x1 x3 x5 hP hS (lv_sub hl [0, 1, 2, 4] rfl) h
  · rw [if_pos c109] at h
    refine lv_aload_n hx hb d_Mo_take_81 rfl (lv_at hl 0 rfl) ?_
    refine lv_iload_n hx hb d_Mo_take_82 rfl (lv_at hl 1 rfl) ?_
    refine lv_iload hx hb d_Mo_take_83 (lv_at hl 3 rfl) ?_
    refine lv_iload hx hb d_Mo_take_85 (lv_at hl 4 rfl) ?_
    obtain ⟨_, e110, h⟩ := ob h
    obtain ⟨M111, e112, h⟩ := ob h
    refine k_cVv C0 L_Mo_202 (As := [.int x1, .int x4, .int x5]) (c_Mo_enter l G x0 x1 x4 x5 e112) ⟨rfl, rfl⟩ ⟨Nat.le_of_ble_eq_true rfl, Nat.le_of_ble_eq_true rfl⟩ hP hS (ck_of e110) ly_Mo rfl hl.1 rfl (Nat.le_of_ble_eq_true rfl) d_Mo_take_87 ⟨Nat.zero_le _, Nat.zero_le _⟩ (fun H locs hP hS => ?_)
    exact w_Mo_take_90 C0 x0 x1 x3 x5 hP hS (lv_sub hl [0, 1, 2, 4] rfl) h
set_option maxHeartbeats 4000000 in
set_option maxRecDepth 100000 in
theorem w_Mo_take_49 {p : Program} {l : Launch} {e : Env} {s : State} {m : MethodId} {args : Array Value} {below : List Frame} {meth : Method} {c : Code} {G : fm_G} (C0 : fm_C p s m args meth c G (.code y_Mo_take b_Mo_take 6 none) "AllocationProfilerModel" b_Mo_take 6 none) {M' : fm_M} (x0 : Nat) (x1 : Int32) (x3 : Int32) (x4 : Int32) (x5 : Int32) {M : fm_M} {H : Heap} {locs : List Loc} (hP : kP G M H) (hS : kS G s H locs) {ls : Array Slot} (hl : lv_has ls 6 [(0, .ref (G.2.2 + x0)), (1, .int x1), (3, .int x3), (4, .int x4), (5, .int x5)]) (h : j_Mo_take_49 x0 x1 x3 x4 x5 M = some M') : W p l e rm_Mo_take s m args below meth c H locs 0 0 (MQ below (fm_Q G 212 shF none M') args s 0 0 (fm_A G.2.2)) (F0 m 49 ls []) := by
  have hx := C0.1
  have hb := C0.2.1
  unfold j_Mo_take_49 at h
  refine lv_iload_n hx hb d_Mo_take_49 rfl (lv_at hl 2 rfl) ?_
  refine lv_bipush (v := 13) hx hb d_Mo_take_50 bp_13 ?_
  refine lv_icmp_ne (tgt := 75) hx hb d_Mo_take_52 (by decide) (fun c113 => ?_) (fun c113 => ?_)
  · rw [if_neg c113] at h
    exact w_Mo_take_75 C0 x0 x1 x3 x4 x5 hP hS (lv_sub hl [0, 1, 2, 3, 4] rfl) h
  · rw [if_pos c113] at h
    refine lv_aload_n hx hb d_Mo_take_55 rfl (lv_at hl 0 rfl) ?_
    obtain ⟨q114, e115, h⟩ := ob h
    refine k_gr C0 F_Mo_66 hP e115 d_Mo_take_56 ?_
    refine lv_iload_n hx hb d_Mo_take_59 rfl (lv_at hl 1 rfl) ?_
    obtain ⟨x116, e117, h⟩ := ob h
    refine k_ai C0 hP e117 d_Mo_take_60 ?_
    refine lv_iconst (v := 5) hx hb d_Mo_take_61 ic_5 ?_
    refine lv_icmp_ne (tgt := 75) hx hb d_Mo_take_62 (by decide) (fun c118 => ?_) (fun c118 => ?_)
    · rw [if_neg c118] at h
      exact w_Mo_take_75 C0 x0 x1 x3 x4 x5 hP hS (lv_sub hl [0, 1, 2, 3, 4] rfl) h
    · rw [if_pos c118] at h
      refine lv_aload_n hx hb d_Mo_take_65 rfl (lv_at hl 0 rfl) ?_
      refine lv_iload_n hx hb d_Mo_take_66 rfl (lv_at hl 1 rfl) ?_
      refine lv_bipush (v := (-2)) hx hb d_Mo_take_67 bp_m2 ?_
      obtain ⟨_, e119, h⟩ := ob h
      obtain ⟨M120, e121, h⟩ := ob h
      refine k_cVv C0 L_Mo_227 (As := [.int x1, .int (-2)]) (c_Mo_raise l G x0 x1 (-2) e121) ⟨rfl, rfl⟩ ⟨Nat.le_of_ble_eq_true rfl, Nat.le_of_ble_eq_true rfl⟩ hP hS (ck_of e119) ly_Mo rfl hl.1 rfl (Nat.le_of_ble_eq_true rfl) d_Mo_take_69 ⟨Nat.zero_le _, Nat.zero_le _⟩ (fun H locs hP hS => ?_)
      refine lv_goto (tgt := 90) hx hb d_Mo_take_72 (by decide) ?_
      exact w_Mo_take_90 C0 x0 x1 x3 x5 hP hS (lv_sub hl [0, 1, 2, 4] rfl) h
set_option maxHeartbeats 4000000 in
set_option maxRecDepth 100000 in
theorem w_Mo_take_30 {p : Program} {l : Launch} {e : Env} {s : State} {m : MethodId} {args : Array Value} {below : List Frame} {meth : Method} {c : Code} {G : fm_G} (C0 : fm_C p s m args meth c G (.code y_Mo_take b_Mo_take 6 none) "AllocationProfilerModel" b_Mo_take 6 none) {M' : fm_M} (x0 : Nat) (x1 : Int32) (x2 : Int32) (x3 : Int32) (x4 : Int32) (x5 : Int32) {M : fm_M} {H : Heap} {locs : List Loc} (hP : kP G M H) (hS : kS G s H locs) {ls : Array Slot} (hl : lv_has ls 6 [(0, .ref (G.2.2 + x0)), (1, .int x1), (2, .int x2), (3, .int x3), (4, .int x4), (5, .int x5)]) (h : j_Mo_take_30 x0 x1 x2 x3 x4 x5 M = some M') : W p l e rm_Mo_take s m args below meth c H locs 0 0 (MQ below (fm_Q G 212 shF none M') args s 0 0 (fm_A G.2.2)) (F0 m 30 ls []) := by
  have hx := C0.1
  have hb := C0.2.1
  unfold j_Mo_take_30 at h
  refine lv_iload_n hx hb d_Mo_take_30 rfl (lv_at hl 3 rfl) ?_
  refine lv_bipush (v := 12) hx hb d_Mo_take_31 bp_12 ?_
  refine lv_icmp_ne (tgt := 49) hx hb d_Mo_take_33 (by decide) (fun c122 => ?_) (fun c122 => ?_)
  · rw [if_neg c122] at h
    exact w_Mo_take_49 C0 x0 x1 x3 x4 x5 hP hS (lv_sub hl [0, 1, 3, 4, 5] rfl) h
  · rw [if_pos c122] at h
    refine lv_aload_n hx hb d_Mo_take_36 rfl (lv_at hl 0 rfl) ?_
    refine lv_iload_n hx hb d_Mo_take_37 rfl (lv_at hl 1 rfl) ?_
    refine lv_iload_n hx hb d_Mo_take_38 rfl (lv_at hl 2 rfl) ?_
    refine lv_iload hx hb d_Mo_take_39 (lv_at hl 5 rfl) ?_
    refine lv_iload hx hb d_Mo_take_41 (lv_at hl 4 rfl) ?_
    obtain ⟨x125, M123, e124, h⟩ := ob2 h
    refine k_cS C0 L_Mo_253 (As := [.int x5, .int x4]) (c_Mo_arraySize l G x5 x4 e124) ⟨rfl, rfl⟩ ⟨Nat.le_of_ble_eq_true rfl, Nat.le_of_ble_eq_true rfl⟩ hP hS rfl hl.1 rfl (Nat.le_of_ble_eq_true rfl) d_Mo_take_43 ⟨Nat.zero_le _, Nat.zero_le _⟩ (fun H locs hP hS => ?_)
    obtain ⟨_, e126, h⟩ := ob h
    obtain ⟨M127, e128, h⟩ := ob h
    refine k_cVv C0 L_Mo_245 (As := [.int x1, .int x2, .long x125]) (c_Mo_allocate l G x0 x1 x2 x125 e128) ⟨rfl, rfl⟩ ⟨Nat.le_of_ble_eq_true rfl, Nat.le_of_ble_eq_true rfl⟩ hP hS (ck_of e126) ly_Mo rfl hl.1 rfl (Nat.le_of_ble_eq_true rfl) d_Mo_take_46 ⟨Nat.zero_le _, Nat.zero_le _⟩ (fun H locs hP hS => ?_)
    exact w_Mo_take_49 C0 x0 x1 x3 x4 x5 hP hS (lv_sub hl [0, 1, 3, 4, 5] rfl) h
set_option maxHeartbeats 4000000 in
set_option maxRecDepth 100000 in
theorem w_Mo_take_22 {p : Program} {l : Launch} {e : Env} {s : State} {m : MethodId} {args : Array Value} {below : List Frame} {meth : Method} {c : Code} {G : fm_G} (C0 : fm_C p s m args meth c G (.code y_Mo_take b_Mo_take 6 none) "AllocationProfilerModel" b_Mo_take 6 none) {M' : fm_M} (x0 : Nat) (x1 : Int32) (x2 : Int32) (x3 : Int32) (x4 : Int32) (x5 : Int32) {M : fm_M} {H : Heap} {locs : List Loc} (hP : kP G M H) (hS : kS G s H locs) {ls : Array Slot} (hl : lv_has ls 6 [(0, .ref (G.2.2 + x0)), (1, .int x1), (2, .int x2), (3, .int x3), (4, .int x4), (5, .int x5)]) (h : j_Mo_take_22 x0 x1 x2 x3 x4 x5 M = some M') : W p l e rm_Mo_take s m args below meth c H locs 0 0 (MQ below (fm_Q G 212 shF none M') args s 0 0 (fm_A G.2.2)) (F0 m 22 ls []) := by
  have hx := C0.1
  have hb := C0.2.1
  unfold j_Mo_take_22 at h
  refine lv_aload_n hx hb d_Mo_take_22 rfl (lv_at hl 0 rfl) ?_
  obtain ⟨q129, e130, h⟩ := ob h
  refine k_gr C0 F_Mo_78 hP e130 d_Mo_take_23 ?_
  refine lv_iload_n hx hb d_Mo_take_26 rfl (lv_at hl 2 rfl) ?_
  refine lv_iload hx hb d_Mo_take_27 (lv_at hl 4 rfl) ?_
  obtain ⟨M131, e132, h⟩ := ob h
  refine k_si C0 hP hS e132 d_Mo_take_29 (fun H locs hP hS => ?_)
  exact w_Mo_take_30 C0 x0 x1 x2 x3 x4 x5 hP hS (lv_sub hl [0, 1, 2, 3, 4, 5] rfl) h
set_option maxHeartbeats 4000000 in
set_option maxRecDepth 100000 in
theorem w_Mo_take_11 {p : Program} {l : Launch} {e : Env} {s : State} {m : MethodId} {args : Array Value} {below : List Frame} {meth : Method} {c : Code} {G : fm_G} (C0 : fm_C p s m args meth c G (.code y_Mo_take b_Mo_take 6 none) "AllocationProfilerModel" b_Mo_take 6 none) {M' : fm_M} (x0 : Nat) (x1 : Int32) (x2 : Int32) (x3 : Int32) (x4 : Int32) (x5 : Int32) {M : fm_M} {H : Heap} {locs : List Loc} (hP : kP G M H) (hS : kS G s H locs) {ls : Array Slot} (hl : lv_has ls 6 [(0, .ref (G.2.2 + x0)), (1, .int x1), (2, .int x2), (3, .int x3), (4, .int x4), (5, .int x5)]) (h : j_Mo_take_11 x0 x1 x2 x3 x4 x5 M = some M') : W p l e rm_Mo_take s m args below meth c H locs 0 0 (MQ below (fm_Q G 212 shF none M') args s 0 0 (fm_A G.2.2)) (F0 m 11 ls []) := by
  have hx := C0.1
  have hb := C0.2.1
  unfold j_Mo_take_11 at h
  refine lv_iload_n hx hb d_Mo_take_11 rfl (lv_at hl 3 rfl) ?_
  refine lv_bipush (v := 10) hx hb d_Mo_take_12 bp_10 ?_
  refine lv_icmp_ne (tgt := 30) hx hb d_Mo_take_14 (by decide) (fun c133 => ?_) (fun c133 => ?_)
  · rw [if_neg c133] at h
    exact w_Mo_take_30 C0 x0 x1 x2 x3 x4 x5 hP hS (lv_sub hl [0, 1, 2, 3, 4, 5] rfl) h
  · rw [if_pos c133] at h
    refine lv_iload hx hb d_Mo_take_17 (lv_at hl 5 rfl) ?_
    refine lv_if_ge (tgt := 30) hx hb d_Mo_take_19 (by decide) (fun c134 => ?_) (fun c134 => ?_)
    · rw [if_pos c134] at h
      exact w_Mo_take_30 C0 x0 x1 x2 x3 x4 x5 hP hS (lv_sub hl [0, 1, 2, 3, 4, 5] rfl) h
    · rw [if_neg c134] at h
      exact w_Mo_take_22 C0 x0 x1 x2 x3 x4 x5 hP hS (lv_sub hl [0, 1, 2, 3, 4, 5] rfl) h
set_option maxHeartbeats 4000000 in
set_option maxRecDepth 100000 in
theorem c_Mo_take (l : Launch) (G : fm_G) (x0 : Nat) (x1 : Int32) (x2 : Int32) (x3 : Int32) (x4 : Int32) (x5 : Int32) {M M' : fm_M} (h : f_Mo_take x0 x1 x2 x3 x4 x5 M = some M') : kMet l y_Mo_take b_Mo_take 6 none rm_Mo_take G M [.ref (G.2.2 + x0), .int x1, .int x2, .int x3, .int x4, .int x5] none M' := by
  refine r_met (by decide) rfl (Nat.le_of_ble_eq_true rfl) (fun p e s m args below meth c C0 hP ls hl => ?_)
  have hx := C0.1
  have hb := C0.2.1
  have hl : lv_has ls 6 [(0, .ref (G.2.2 + x0)), (1, .int x1), (2, .int x2), (3, .int x3), (4, .int x4), (5, .int x5)] := hl
  have hS : va_S (fm_A G.2.2) s.heap s.heap [] := va_S.rf
  unfold f_Mo_take at h
  refine lv_iload_n hx hb d_Mo_take_0 rfl (lv_at hl 3 rfl) ?_
  refine lv_bipush (v := 9) hx hb d_Mo_take_1 bp_9 ?_
  refine lv_icmp_ne (tgt := 11) hx hb d_Mo_take_3 (by decide) (fun c135 => ?_) (fun c135 => ?_)
  · rw [if_neg c135] at h
    exact w_Mo_take_11 C0 x0 x1 x2 x3 x4 x5 hP hS (lv_sub hl [0, 1, 2, 3, 4, 5] rfl) h
  · rw [if_pos c135] at h
    refine lv_iload hx hb d_Mo_take_6 (lv_at hl 5 rfl) ?_
    refine lv_if_eq (tgt := 22) hx hb d_Mo_take_8 (by decide) (fun c136 => ?_) (fun c136 => ?_)
    · rw [if_pos c136] at h
      exact w_Mo_take_22 C0 x0 x1 x2 x3 x4 x5 hP hS (lv_sub hl [0, 1, 2, 3, 4, 5] rfl) h
    · rw [if_neg c136] at h
      exact w_Mo_take_11 C0 x0 x1 x2 x3 x4 x5 hP hS (lv_sub hl [0, 1, 2, 3, 4, 5] rfl) h
/-! AllocationProfilerModel.execute -/
def rm_Mo_execute : Room := { frames := 4, cells := 0, slots := 0, locals := 98 }
theorem d_Mo_execute_0 : decode b_Mo_execute 0 = .ok (.iconst 5, 1) := by decide +kernel
theorem d_Mo_execute_1 : decode b_Mo_execute 1 = .ok (.iload_n 1, 1) := by decide +kernel
theorem d_Mo_execute_2 : decode b_Mo_execute 2 = .ok (.imul, 1) := by decide +kernel
theorem d_Mo_execute_3 : decode b_Mo_execute 3 = .ok (.aload_n 0, 1) := by decide +kernel
theorem d_Mo_execute_4 : decode b_Mo_execute 4 = .ok (.getfield 66, 3) := by decide +kernel
theorem d_Mo_execute_7 : decode b_Mo_execute 7 = .ok (.iload_n 1, 1) := by decide +kernel
theorem d_Mo_execute_8 : decode b_Mo_execute 8 = .ok (.iaload, 1) := by decide +kernel
theorem d_Mo_execute_9 : decode b_Mo_execute 9 = .ok (.iadd, 1) := by decide +kernel
theorem d_Mo_execute_10 : decode b_Mo_execute 10 = .ok (.iconst 1, 1) := by decide +kernel
theorem d_Mo_execute_11 : decode b_Mo_execute 11 = .ok (.isub, 1) := by decide +kernel
theorem d_Mo_execute_12 : decode b_Mo_execute 12 = .ok (.istore_n 2, 1) := by decide +kernel
theorem d_Mo_execute_13 : decode b_Mo_execute 13 = .ok (.bipush 28, 2) := by decide +kernel
theorem d_Mo_execute_15 : decode b_Mo_execute 15 = .ok (.aload_n 0, 1) := by decide +kernel
theorem d_Mo_execute_16 : decode b_Mo_execute 16 = .ok (.getfield 75, 3) := by decide +kernel
theorem d_Mo_execute_19 : decode b_Mo_execute 19 = .ok (.iload_n 2, 1) := by decide +kernel
theorem d_Mo_execute_20 : decode b_Mo_execute 20 = .ok (.iaload, 1) := by decide +kernel
theorem d_Mo_execute_21 : decode b_Mo_execute 21 = .ok (.imul, 1) := by decide +kernel
theorem d_Mo_execute_22 : decode b_Mo_execute 22 = .ok (.aload_n 0, 1) := by decide +kernel
theorem d_Mo_execute_23 : decode b_Mo_execute 23 = .ok (.getfield 78, 3) := by decide +kernel
theorem d_Mo_execute_26 : decode b_Mo_execute 26 = .ok (.iload_n 2, 1) := by decide +kernel
theorem d_Mo_execute_27 : decode b_Mo_execute 27 = .ok (.iaload, 1) := by decide +kernel
theorem d_Mo_execute_28 : decode b_Mo_execute 28 = .ok (.iadd, 1) := by decide +kernel
theorem d_Mo_execute_29 : decode b_Mo_execute 29 = .ok (.istore_n 3, 1) := by decide +kernel
theorem d_Mo_execute_30 : decode b_Mo_execute 30 = .ok (.aload_n 0, 1) := by decide +kernel
theorem d_Mo_execute_31 : decode b_Mo_execute 31 = .ok (.getfield 51, 3) := by decide +kernel
theorem d_Mo_execute_34 : decode b_Mo_execute 34 = .ok (.iload_n 3, 1) := by decide +kernel
theorem d_Mo_execute_35 : decode b_Mo_execute 35 = .ok (.iaload, 1) := by decide +kernel
theorem d_Mo_execute_36 : decode b_Mo_execute 36 = .ok (.istore 4, 2) := by decide +kernel
theorem d_Mo_execute_38 : decode b_Mo_execute 38 = .ok (.aload_n 0, 1) := by decide +kernel
theorem d_Mo_execute_39 : decode b_Mo_execute 39 = .ok (.getfield 54, 3) := by decide +kernel
theorem d_Mo_execute_42 : decode b_Mo_execute 42 = .ok (.iload_n 3, 1) := by decide +kernel
theorem d_Mo_execute_43 : decode b_Mo_execute 43 = .ok (.iaload, 1) := by decide +kernel
theorem d_Mo_execute_44 : decode b_Mo_execute 44 = .ok (.istore 5, 2) := by decide +kernel
theorem d_Mo_execute_46 : decode b_Mo_execute 46 = .ok (.aload_n 0, 1) := by decide +kernel
theorem d_Mo_execute_47 : decode b_Mo_execute 47 = .ok (.getfield 78, 3) := by decide +kernel
theorem d_Mo_execute_50 : decode b_Mo_execute 50 = .ok (.iload_n 2, 1) := by decide +kernel
theorem d_Mo_execute_51 : decode b_Mo_execute 51 = .ok (.dup2, 1) := by decide +kernel
theorem d_Mo_execute_52 : decode b_Mo_execute 52 = .ok (.iaload, 1) := by decide +kernel
theorem d_Mo_execute_53 : decode b_Mo_execute 53 = .ok (.iconst 1, 1) := by decide +kernel
theorem d_Mo_execute_54 : decode b_Mo_execute 54 = .ok (.iadd, 1) := by decide +kernel
theorem d_Mo_execute_55 : decode b_Mo_execute 55 = .ok (.iastore, 1) := by decide +kernel
theorem d_Mo_execute_56 : decode b_Mo_execute 56 = .ok (.iload 4, 2) := by decide +kernel
theorem d_Mo_execute_58 : decode b_Mo_execute 58 = .ok (.ifCond .ne 13, 3) := by decide +kernel
theorem d_Mo_execute_61 : decode b_Mo_execute 61 = .ok (.aload_n 0, 1) := by decide +kernel
theorem d_Mo_execute_62 : decode b_Mo_execute 62 = .ok (.iload_n 2, 1) := by decide +kernel
theorem d_Mo_execute_63 : decode b_Mo_execute 63 = .ok (.iload 5, 2) := by decide +kernel
theorem d_Mo_execute_65 : decode b_Mo_execute 65 = .ok (.invokevirtual 209, 3) := by decide +kernel
theorem d_Mo_execute_68 : decode b_Mo_execute 68 = .ok (.goto 165, 3) := by decide +kernel
theorem d_Mo_execute_71 : decode b_Mo_execute 71 = .ok (.iload 4, 2) := by decide +kernel
theorem d_Mo_execute_73 : decode b_Mo_execute 73 = .ok (.iconst 1, 1) := by decide +kernel
theorem d_Mo_execute_74 : decode b_Mo_execute 74 = .ok (.if_icmp .ne 22, 3) := by decide +kernel
theorem d_Mo_execute_77 : decode b_Mo_execute 77 = .ok (.aload_n 0, 1) := by decide +kernel
theorem d_Mo_execute_78 : decode b_Mo_execute 78 = .ok (.iload_n 2, 1) := by decide +kernel
theorem d_Mo_execute_79 : decode b_Mo_execute 79 = .ok (.aload_n 0, 1) := by decide +kernel
theorem d_Mo_execute_80 : decode b_Mo_execute 80 = .ok (.getfield 84, 3) := by decide +kernel
theorem d_Mo_execute_83 : decode b_Mo_execute 83 = .ok (.iconst 4, 1) := by decide +kernel
theorem d_Mo_execute_84 : decode b_Mo_execute 84 = .ok (.iload_n 2, 1) := by decide +kernel
theorem d_Mo_execute_85 : decode b_Mo_execute 85 = .ok (.imul, 1) := by decide +kernel
theorem d_Mo_execute_86 : decode b_Mo_execute 86 = .ok (.iload 5, 2) := by decide +kernel
theorem d_Mo_execute_88 : decode b_Mo_execute 88 = .ok (.iadd, 1) := by decide +kernel
theorem d_Mo_execute_89 : decode b_Mo_execute 89 = .ok (.iaload, 1) := by decide +kernel
theorem d_Mo_execute_90 : decode b_Mo_execute 90 = .ok (.invokevirtual 209, 3) := by decide +kernel
theorem d_Mo_execute_93 : decode b_Mo_execute 93 = .ok (.goto 140, 3) := by decide +kernel
theorem d_Mo_execute_96 : decode b_Mo_execute 96 = .ok (.iload 4, 2) := by decide +kernel
theorem d_Mo_execute_98 : decode b_Mo_execute 98 = .ok (.iconst 2, 1) := by decide +kernel
theorem d_Mo_execute_99 : decode b_Mo_execute 99 = .ok (.if_icmp .ne 22, 3) := by decide +kernel
theorem d_Mo_execute_102 : decode b_Mo_execute 102 = .ok (.aload_n 0, 1) := by decide +kernel
theorem d_Mo_execute_103 : decode b_Mo_execute 103 = .ok (.getfield 84, 3) := by decide +kernel
theorem d_Mo_execute_106 : decode b_Mo_execute 106 = .ok (.iconst 4, 1) := by decide +kernel
theorem d_Mo_execute_107 : decode b_Mo_execute 107 = .ok (.iload_n 2, 1) := by decide +kernel
theorem d_Mo_execute_108 : decode b_Mo_execute 108 = .ok (.imul, 1) := by decide +kernel
theorem d_Mo_execute_109 : decode b_Mo_execute 109 = .ok (.iload 5, 2) := by decide +kernel
theorem d_Mo_execute_111 : decode b_Mo_execute 111 = .ok (.iadd, 1) := by decide +kernel
theorem d_Mo_execute_112 : decode b_Mo_execute 112 = .ok (.aload_n 0, 1) := by decide +kernel
theorem d_Mo_execute_113 : decode b_Mo_execute 113 = .ok (.iload_n 2, 1) := by decide +kernel
theorem d_Mo_execute_114 : decode b_Mo_execute 114 = .ok (.invokevirtual 239, 3) := by decide +kernel
theorem d_Mo_execute_117 : decode b_Mo_execute 117 = .ok (.iastore, 1) := by decide +kernel
theorem d_Mo_execute_118 : decode b_Mo_execute 118 = .ok (.goto 115, 3) := by decide +kernel
theorem d_Mo_execute_121 : decode b_Mo_execute 121 = .ok (.iload 4, 2) := by decide +kernel
theorem d_Mo_execute_123 : decode b_Mo_execute 123 = .ok (.bipush 6, 2) := by decide +kernel
theorem d_Mo_execute_125 : decode b_Mo_execute 125 = .ok (.if_icmp .ge 18, 3) := by decide +kernel
theorem d_Mo_execute_128 : decode b_Mo_execute 128 = .ok (.aload_n 0, 1) := by decide +kernel
theorem d_Mo_execute_129 : decode b_Mo_execute 129 = .ok (.iload_n 2, 1) := by decide +kernel
theorem d_Mo_execute_130 : decode b_Mo_execute 130 = .ok (.iload 4, 2) := by decide +kernel
theorem d_Mo_execute_132 : decode b_Mo_execute 132 = .ok (.aload_n 0, 1) := by decide +kernel
theorem d_Mo_execute_133 : decode b_Mo_execute 133 = .ok (.iload_n 2, 1) := by decide +kernel
theorem d_Mo_execute_134 : decode b_Mo_execute 134 = .ok (.invokevirtual 239, 3) := by decide +kernel
theorem d_Mo_execute_137 : decode b_Mo_execute 137 = .ok (.invokevirtual 242, 3) := by decide +kernel
theorem d_Mo_execute_140 : decode b_Mo_execute 140 = .ok (.goto 93, 3) := by decide +kernel
theorem d_Mo_execute_143 : decode b_Mo_execute 143 = .ok (.iload 4, 2) := by decide +kernel
theorem d_Mo_execute_145 : decode b_Mo_execute 145 = .ok (.bipush 6, 2) := by decide +kernel
theorem d_Mo_execute_147 : decode b_Mo_execute 147 = .ok (.if_icmp .ne 29, 3) := by decide +kernel
theorem d_Mo_execute_150 : decode b_Mo_execute 150 = .ok (.aload_n 0, 1) := by decide +kernel
theorem d_Mo_execute_151 : decode b_Mo_execute 151 = .ok (.iload_n 2, 1) := by decide +kernel
theorem d_Mo_execute_152 : decode b_Mo_execute 152 = .ok (.aload_n 0, 1) := by decide +kernel
theorem d_Mo_execute_153 : decode b_Mo_execute 153 = .ok (.getfield 87, 3) := by decide +kernel
theorem d_Mo_execute_156 : decode b_Mo_execute 156 = .ok (.bipush 6, 2) := by decide +kernel
theorem d_Mo_execute_158 : decode b_Mo_execute 158 = .ok (.iload_n 2, 1) := by decide +kernel
theorem d_Mo_execute_159 : decode b_Mo_execute 159 = .ok (.imul, 1) := by decide +kernel
theorem d_Mo_execute_160 : decode b_Mo_execute 160 = .ok (.aload_n 0, 1) := by decide +kernel
theorem d_Mo_execute_161 : decode b_Mo_execute 161 = .ok (.getfield 81, 3) := by decide +kernel
theorem d_Mo_execute_164 : decode b_Mo_execute 164 = .ok (.iload_n 2, 1) := by decide +kernel
theorem d_Mo_execute_165 : decode b_Mo_execute 165 = .ok (.iaload, 1) := by decide +kernel
theorem d_Mo_execute_166 : decode b_Mo_execute 166 = .ok (.iadd, 1) := by decide +kernel
theorem d_Mo_execute_167 : decode b_Mo_execute 167 = .ok (.iconst 1, 1) := by decide +kernel
theorem d_Mo_execute_168 : decode b_Mo_execute 168 = .ok (.isub, 1) := by decide +kernel
theorem d_Mo_execute_169 : decode b_Mo_execute 169 = .ok (.iaload, 1) := by decide +kernel
theorem d_Mo_execute_170 : decode b_Mo_execute 170 = .ok (.invokevirtual 209, 3) := by decide +kernel
theorem d_Mo_execute_173 : decode b_Mo_execute 173 = .ok (.goto 60, 3) := by decide +kernel
theorem d_Mo_execute_176 : decode b_Mo_execute 176 = .ok (.iload 4, 2) := by decide +kernel
theorem d_Mo_execute_178 : decode b_Mo_execute 178 = .ok (.bipush 11, 2) := by decide +kernel
theorem d_Mo_execute_180 : decode b_Mo_execute 180 = .ok (.if_icmp .ne 20, 3) := by decide +kernel
theorem d_Mo_execute_183 : decode b_Mo_execute 183 = .ok (.aload_n 0, 1) := by decide +kernel
theorem d_Mo_execute_184 : decode b_Mo_execute 184 = .ok (.iload_n 1, 1) := by decide +kernel
theorem d_Mo_execute_185 : decode b_Mo_execute 185 = .ok (.iload_n 2, 1) := by decide +kernel
theorem d_Mo_execute_186 : decode b_Mo_execute 186 = .ok (.aload_n 0, 1) := by decide +kernel
theorem d_Mo_execute_187 : decode b_Mo_execute 187 = .ok (.getfield 13, 3) := by decide +kernel
theorem d_Mo_execute_190 : decode b_Mo_execute 190 = .ok (.iload 5, 2) := by decide +kernel
theorem d_Mo_execute_192 : decode b_Mo_execute 192 = .ok (.iaload, 1) := by decide +kernel
theorem d_Mo_execute_193 : decode b_Mo_execute 193 = .ok (.i2l, 1) := by decide +kernel
theorem d_Mo_execute_194 : decode b_Mo_execute 194 = .ok (.invokevirtual 245, 3) := by decide +kernel
theorem d_Mo_execute_197 : decode b_Mo_execute 197 = .ok (.goto 36, 3) := by decide +kernel
theorem d_Mo_execute_200 : decode b_Mo_execute 200 = .ok (.iload 4, 2) := by decide +kernel
theorem d_Mo_execute_202 : decode b_Mo_execute 202 = .ok (.bipush 8, 2) := by decide +kernel
theorem d_Mo_execute_204 : decode b_Mo_execute 204 = .ok (.if_icmp .ne 14, 3) := by decide +kernel
theorem d_Mo_execute_207 : decode b_Mo_execute 207 = .ok (.aload_n 0, 1) := by decide +kernel
theorem d_Mo_execute_208 : decode b_Mo_execute 208 = .ok (.getfield 78, 3) := by decide +kernel
theorem d_Mo_execute_211 : decode b_Mo_execute 211 = .ok (.iload_n 2, 1) := by decide +kernel
theorem d_Mo_execute_212 : decode b_Mo_execute 212 = .ok (.iload 5, 2) := by decide +kernel
theorem d_Mo_execute_214 : decode b_Mo_execute 214 = .ok (.iastore, 1) := by decide +kernel
theorem d_Mo_execute_215 : decode b_Mo_execute 215 = .ok (.goto 18, 3) := by decide +kernel
theorem d_Mo_execute_218 : decode b_Mo_execute 218 = .ok (.aload_n 0, 1) := by decide +kernel
theorem d_Mo_execute_219 : decode b_Mo_execute 219 = .ok (.iload_n 1, 1) := by decide +kernel
theorem d_Mo_execute_220 : decode b_Mo_execute 220 = .ok (.iload_n 2, 1) := by decide +kernel
theorem d_Mo_execute_221 : decode b_Mo_execute 221 = .ok (.iload 4, 2) := by decide +kernel
theorem d_Mo_execute_223 : decode b_Mo_execute 223 = .ok (.iload 5, 2) := by decide +kernel
theorem d_Mo_execute_225 : decode b_Mo_execute 225 = .ok (.aload_n 0, 1) := by decide +kernel
theorem d_Mo_execute_226 : decode b_Mo_execute 226 = .ok (.iload_n 2, 1) := by decide +kernel
theorem d_Mo_execute_227 : decode b_Mo_execute 227 = .ok (.invokevirtual 239, 3) := by decide +kernel
theorem d_Mo_execute_230 : decode b_Mo_execute 230 = .ok (.invokevirtual 249, 3) := by decide +kernel
theorem d_Mo_execute_233 : decode b_Mo_execute 233 = .ok (.return_, 1) := by decide +kernel
def f_Mo_execute (x0 : Nat) (x1 : Int32) (M : fm_M) : Option fm_M :=
  (gr x0 10 25).bind fun q101 =>
  (ai q101 x1 M).bind fun x103 =>
  (gr x0 10 28).bind fun q105 =>
  (ai q105 (((5 * x1) + x103) - 1) M).bind fun x107 =>
  (gr x0 10 29).bind fun q109 =>
  (ai q109 (((5 * x1) + x103) - 1) M).bind fun x111 =>
  (gr x0 10 19).bind fun q113 =>
  (ai q113 ((28 * x107) + x111) M).bind fun x115 =>
  (gr x0 10 20).bind fun q117 =>
  (ai q117 ((28 * x107) + x111) M).bind fun x119 =>
  (gr x0 10 29).bind fun q121 =>
  (ai q121 (((5 * x1) + x103) - 1) M).bind fun x123 =>
  (si q121 (((5 * x1) + x103) - 1) (x123 + 1) M).bind fun M125 =>
  if x115 = 0 then
    (ck x0 10).bind fun _ =>
    (f_Mo_push x0 (((5 * x1) + x103) - 1) x119 M125).bind fun M186 =>
    some M186
  else
    if x115 = 1 then
      (gr x0 10 31).bind fun q178 =>
      (ai q178 ((4 * (((5 * x1) + x103) - 1)) + x119) M125).bind fun x180 =>
      (ck x0 10).bind fun _ =>
      (f_Mo_push x0 (((5 * x1) + x103) - 1) x180 M125).bind fun M183 =>
      some M183
    else
      if x115 = 2 then
        (gr x0 10 31).bind fun q170 =>
        (ck x0 10).bind fun _ =>
        bd (f_Mo_pop x0 (((5 * x1) + x103) - 1) M125) fun x175 M173 =>
        (si q170 ((4 * (((5 * x1) + x103) - 1)) + x119) x175 M173).bind fun M176 =>
        some M176
      else
        if 6 ≤ x115 then
          if x115 = 6 then
            (gr x0 10 32).bind fun q152 =>
            (gr x0 10 30).bind fun q154 =>
            (ai q154 (((5 * x1) + x103) - 1) M125).bind fun x156 =>
            (ai q152 (((6 * (((5 * x1) + x103) - 1)) + x156) - 1) M125).bind fun x158 =>
            (ck x0 10).bind fun _ =>
            (f_Mo_push x0 (((5 * x1) + x103) - 1) x158 M125).bind fun M161 =>
            some M161
          else
            if x115 = 11 then
              (gr x0 10 3).bind fun q145 =>
              (ai q145 x119 M125).bind fun x147 =>
              (ck x0 10).bind fun _ =>
              (f_Mo_allocate x0 x1 (((5 * x1) + x103) - 1) x147.toInt64 M125).bind fun M150 =>
              some M150
            else
              if x115 = 8 then
                (gr x0 10 29).bind fun q141 =>
                (si q141 (((5 * x1) + x103) - 1) x119 M125).bind fun M143 =>
                some M143
              else
                (ck x0 10).bind fun _ =>
                bd (f_Mo_pop x0 (((5 * x1) + x103) - 1) M125) fun x137 M135 =>
                (ck x0 10).bind fun _ =>
                (f_Mo_take x0 x1 (((5 * x1) + x103) - 1) x115 x119 x137 M135).bind fun M139 =>
                some M139
        else
          (ck x0 10).bind fun _ =>
          bd (f_Mo_pop x0 (((5 * x1) + x103) - 1) M125) fun x166 M164 =>
          (ck x0 10).bind fun _ =>
          (f_Mo_reckon x0 (((5 * x1) + x103) - 1) x115 x166 M164).bind fun M168 =>
          some M168
set_option maxHeartbeats 4000000 in
set_option maxRecDepth 100000 in
theorem c_Mo_execute (l : Launch) (G : fm_G) (x0 : Nat) (x1 : Int32) {M M' : fm_M} (h : f_Mo_execute x0 x1 M = some M') : kMet l y_Mo_execute b_Mo_execute 6 none rm_Mo_execute G M [.ref (G.2.2 + x0), .int x1] none M' := by
  refine r_met (by decide) rfl (Nat.le_of_ble_eq_true rfl) (fun p e s m args below meth c C0 hP ls hl => ?_)
  have hx := C0.1
  have hb := C0.2.1
  have hl : lv_has ls 6 [(0, .ref (G.2.2 + x0)), (1, .int x1)] := hl
  have hS : va_S (fm_A G.2.2) s.heap s.heap [] := va_S.rf
  unfold f_Mo_execute at h
  refine lv_iconst (v := 5) hx hb d_Mo_execute_0 ic_5 ?_
  refine lv_iload_n hx hb d_Mo_execute_1 rfl (lv_at hl 1 rfl) ?_
  refine lv_imul hx hb d_Mo_execute_2 ?_
  refine lv_aload_n hx hb d_Mo_execute_3 rfl (lv_at hl 0 rfl) ?_
  obtain ⟨q101, e102, h⟩ := ob h
  refine k_gr C0 F_Mo_66 hP e102 d_Mo_execute_4 ?_
  refine lv_iload_n hx hb d_Mo_execute_7 rfl (lv_at hl 1 rfl) ?_
  obtain ⟨x103, e104, h⟩ := ob h
  refine k_ai C0 hP e104 d_Mo_execute_8 ?_
  refine lv_iadd hx hb d_Mo_execute_9 ?_
  refine lv_iconst (v := 1) hx hb d_Mo_execute_10 ic_1 ?_
  refine lv_isub hx hb d_Mo_execute_11 ?_
  refine lv_istore_n (lv' := [(2, .int (((5 * x1) + x103) - 1)), (0, .ref (G.2.2 + x0)), (1, .int x1)]) hx hb d_Mo_execute_12 rfl hl (by decide) rfl (fun ls hl => ?_)
  refine lv_bipush (v := 28) hx hb d_Mo_execute_13 bp_28 ?_
  refine lv_aload_n hx hb d_Mo_execute_15 rfl (lv_at hl 1 rfl) ?_
  obtain ⟨q105, e106, h⟩ := ob h
  refine k_gr C0 F_Mo_75 hP e106 d_Mo_execute_16 ?_
  refine lv_iload_n hx hb d_Mo_execute_19 rfl (lv_at hl 0 rfl) ?_
  obtain ⟨x107, e108, h⟩ := ob h
  refine k_ai C0 hP e108 d_Mo_execute_20 ?_
  refine lv_imul hx hb d_Mo_execute_21 ?_
  refine lv_aload_n hx hb d_Mo_execute_22 rfl (lv_at hl 1 rfl) ?_
  obtain ⟨q109, e110, h⟩ := ob h
  refine k_gr C0 F_Mo_78 hP e110 d_Mo_execute_23 ?_
  refine lv_iload_n hx hb d_Mo_execute_26 rfl (lv_at hl 0 rfl) ?_
  obtain ⟨x111, e112, h⟩ := ob h
  refine k_ai C0 hP e112 d_Mo_execute_27 ?_
  refine lv_iadd hx hb d_Mo_execute_28 ?_
  refine lv_istore_n (lv' := [(3, .int ((28 * x107) + x111)), (2, .int (((5 * x1) + x103) - 1)), (0, .ref (G.2.2 + x0)), (1, .int x1)]) hx hb d_Mo_execute_29 rfl hl (by decide) rfl (fun ls hl => ?_)
  refine lv_aload_n hx hb d_Mo_execute_30 rfl (lv_at hl 2 rfl) ?_
  obtain ⟨q113, e114, h⟩ := ob h
  refine k_gr C0 F_Mo_51 hP e114 d_Mo_execute_31 ?_
  refine lv_iload_n hx hb d_Mo_execute_34 rfl (lv_at hl 0 rfl) ?_
  obtain ⟨x115, e116, h⟩ := ob h
  refine k_ai C0 hP e116 d_Mo_execute_35 ?_
  refine lv_istore (lv' := [(4, .int x115), (3, .int ((28 * x107) + x111)), (2, .int (((5 * x1) + x103) - 1)), (0, .ref (G.2.2 + x0)), (1, .int x1)]) hx hb d_Mo_execute_36 hl (by decide) rfl (fun ls hl => ?_)
  refine lv_aload_n hx hb d_Mo_execute_38 rfl (lv_at hl 3 rfl) ?_
  obtain ⟨q117, e118, h⟩ := ob h
  refine k_gr C0 F_Mo_54 hP e118 d_Mo_execute_39 ?_
  refine lv_iload_n hx hb d_Mo_execute_42 rfl (lv_at hl 1 rfl) ?_
  obtain ⟨x119, e120, h⟩ := ob h
  refine k_ai C0 hP e120 d_Mo_execute_43 ?_
  refine lv_istore (lv' := [(5, .int x119), (4, .int x115), (3, .int ((28 * x107) + x111)), (2, .int (((5 * x1) + x103) - 1)), (0, .ref (G.2.2 + x0)), (1, .int x1)]) hx hb d_Mo_execute_44 hl (by decide) rfl (fun ls hl => ?_)
  refine lv_aload_n hx hb d_Mo_execute_46 rfl (lv_at hl 4 rfl) ?_
  obtain ⟨q121, e122, h⟩ := ob h
  refine k_gr C0 F_Mo_78 hP e122 d_Mo_execute_47 ?_
  refine lv_iload_n hx hb d_Mo_execute_50 rfl (lv_at hl 3 rfl) ?_
  refine lv_dup2_11 hx hb d_Mo_execute_51 rfl rfl ?_
  obtain ⟨x123, e124, h⟩ := ob h
  refine k_ai C0 hP e124 d_Mo_execute_52 ?_
  refine lv_iconst (v := 1) hx hb d_Mo_execute_53 ic_1 ?_
  refine lv_iadd hx hb d_Mo_execute_54 ?_
  obtain ⟨M125, e126, h⟩ := ob h
  refine k_si C0 hP hS e126 d_Mo_execute_55 (fun H locs hP hS => ?_)
  refine lv_iload hx hb d_Mo_execute_56 (lv_at hl 1 rfl) ?_
  refine lv_if_ne (tgt := 71) hx hb d_Mo_execute_58 (by decide) (fun c127 => ?_) (fun c127 => ?_)
  · rw [if_neg c127] at h
    refine lv_iload hx hb d_Mo_execute_71 (lv_at hl 1 rfl) ?_
    refine lv_iconst (v := 1) hx hb d_Mo_execute_73 ic_1 ?_
    refine lv_icmp_ne (tgt := 96) hx hb d_Mo_execute_74 (by decide) (fun c128 => ?_) (fun c128 => ?_)
    · rw [if_neg c128] at h
      refine lv_iload hx hb d_Mo_execute_96 (lv_at hl 1 rfl) ?_
      refine lv_iconst (v := 2) hx hb d_Mo_execute_98 ic_2 ?_
      refine lv_icmp_ne (tgt := 121) hx hb d_Mo_execute_99 (by decide) (fun c129 => ?_) (fun c129 => ?_)
      · rw [if_neg c129] at h
        refine lv_iload hx hb d_Mo_execute_121 (lv_at hl 1 rfl) ?_
        refine lv_bipush (v := 6) hx hb d_Mo_execute_123 bp_6 ?_
        refine lv_icmp_ge (tgt := 143) hx hb d_Mo_execute_125 (by decide) (fun c130 => ?_) (fun c130 => ?_)
        · rw [if_pos c130] at h
          refine lv_iload hx hb d_Mo_execute_143 (lv_at hl 1 rfl) ?_
          refine lv_bipush (v := 6) hx hb d_Mo_execute_145 bp_6 ?_
          refine lv_icmp_ne (tgt := 176) hx hb d_Mo_execute_147 (by decide) (fun c131 => ?_) (fun c131 => ?_)
          · rw [if_neg c131] at h
            refine lv_iload hx hb d_Mo_execute_176 (lv_at hl 1 rfl) ?_
            refine lv_bipush (v := 11) hx hb d_Mo_execute_178 bp_11 ?_
            refine lv_icmp_ne (tgt := 200) hx hb d_Mo_execute_180 (by decide) (fun c132 => ?_) (fun c132 => ?_)
            · rw [if_neg c132] at h
              refine lv_iload hx hb d_Mo_execute_200 (lv_at hl 1 rfl) ?_
              refine lv_bipush (v := 8) hx hb d_Mo_execute_202 bp_8 ?_
              refine lv_icmp_ne (tgt := 218) hx hb d_Mo_execute_204 (by decide) (fun c133 => ?_) (fun c133 => ?_)
              · rw [if_neg c133] at h
                refine lv_aload_n hx hb d_Mo_execute_218 rfl (lv_at hl 4 rfl) ?_
                refine lv_iload_n hx hb d_Mo_execute_219 rfl (lv_at hl 5 rfl) ?_
                refine lv_iload_n hx hb d_Mo_execute_220 rfl (lv_at hl 3 rfl) ?_
                refine lv_iload hx hb d_Mo_execute_221 (lv_at hl 1 rfl) ?_
                refine lv_iload hx hb d_Mo_execute_223 (lv_at hl 0 rfl) ?_
                refine lv_aload_n hx hb d_Mo_execute_225 rfl (lv_at hl 4 rfl) ?_
                refine lv_iload_n hx hb d_Mo_execute_226 rfl (lv_at hl 3 rfl) ?_
                obtain ⟨_, e134, h⟩ := ob h
                obtain ⟨x137, M135, e136, h⟩ := ob2 h
                refine k_cV C0 L_Mo_239 (As := [.int (((5 * x1) + x103) - 1)]) (c_Mo_pop l G x0 (((5 * x1) + x103) - 1) e136) ⟨rfl, rfl⟩ ⟨Nat.le_of_ble_eq_true rfl, Nat.le_of_ble_eq_true rfl⟩ hP hS (ck_of e134) ly_Mo rfl hl.1 rfl (Nat.le_of_ble_eq_true rfl) d_Mo_execute_227 ⟨Nat.zero_le _, Nat.zero_le _⟩ (fun H locs hP hS => ?_)
                obtain ⟨_, e138, h⟩ := ob h
                obtain ⟨M139, e140, h⟩ := ob h
                refine k_cVv C0 L_Mo_249 (As := [.int x1, .int (((5 * x1) + x103) - 1), .int x115, .int x119, .int x137]) (c_Mo_take l G x0 x1 (((5 * x1) + x103) - 1) x115 x119 x137 e140) ⟨rfl, rfl⟩ ⟨Nat.le_of_ble_eq_true rfl, Nat.le_of_ble_eq_true rfl⟩ hP hS (ck_of e138) ly_Mo rfl hl.1 rfl (Nat.le_of_ble_eq_true rfl) d_Mo_execute_230 ⟨Nat.zero_le _, Nat.zero_le _⟩ (fun H locs hP hS => ?_)
                cases h
                exact r_vret C0 hP hS d_Mo_execute_233
              · rw [if_pos c133] at h
                refine lv_aload_n hx hb d_Mo_execute_207 rfl (lv_at hl 4 rfl) ?_
                obtain ⟨q141, e142, h⟩ := ob h
                refine k_gr C0 F_Mo_78 hP e142 d_Mo_execute_208 ?_
                refine lv_iload_n hx hb d_Mo_execute_211 rfl (lv_at hl 3 rfl) ?_
                refine lv_iload hx hb d_Mo_execute_212 (lv_at hl 0 rfl) ?_
                obtain ⟨M143, e144, h⟩ := ob h
                refine k_si C0 hP hS e144 d_Mo_execute_214 (fun H locs hP hS => ?_)
                refine lv_goto (tgt := 233) hx hb d_Mo_execute_215 (by decide) ?_
                cases h
                exact r_vret C0 hP hS d_Mo_execute_233
            · rw [if_pos c132] at h
              refine lv_aload_n hx hb d_Mo_execute_183 rfl (lv_at hl 4 rfl) ?_
              refine lv_iload_n hx hb d_Mo_execute_184 rfl (lv_at hl 5 rfl) ?_
              refine lv_iload_n hx hb d_Mo_execute_185 rfl (lv_at hl 3 rfl) ?_
              refine lv_aload_n hx hb d_Mo_execute_186 rfl (lv_at hl 4 rfl) ?_
              obtain ⟨q145, e146, h⟩ := ob h
              refine k_gr C0 F_Mo_13 hP e146 d_Mo_execute_187 ?_
              refine lv_iload hx hb d_Mo_execute_190 (lv_at hl 0 rfl) ?_
              obtain ⟨x147, e148, h⟩ := ob h
              refine k_ai C0 hP e148 d_Mo_execute_192 ?_
              refine lv_i2l hx hb d_Mo_execute_193 rfl ?_
              obtain ⟨_, e149, h⟩ := ob h
              obtain ⟨M150, e151, h⟩ := ob h
              refine k_cVv C0 L_Mo_245 (As := [.int x1, .int (((5 * x1) + x103) - 1), .long x147.toInt64]) (c_Mo_allocate l G x0 x1 (((5 * x1) + x103) - 1) x147.toInt64 e151) ⟨rfl, rfl⟩ ⟨Nat.le_of_ble_eq_true rfl, Nat.le_of_ble_eq_true rfl⟩ hP hS (ck_of e149) ly_Mo rfl hl.1 rfl (Nat.le_of_ble_eq_true rfl) d_Mo_execute_194 ⟨Nat.zero_le _, Nat.zero_le _⟩ (fun H locs hP hS => ?_)
              refine lv_goto (tgt := 233) hx hb d_Mo_execute_197 (by decide) ?_
              cases h
              exact r_vret C0 hP hS d_Mo_execute_233
          · rw [if_pos c131] at h
            refine lv_aload_n hx hb d_Mo_execute_150 rfl (lv_at hl 4 rfl) ?_
            refine lv_iload_n hx hb d_Mo_execute_151 rfl (lv_at hl 3 rfl) ?_
            refine lv_aload_n hx hb d_Mo_execute_152 rfl (lv_at hl 4 rfl) ?_
            obtain ⟨q152, e153, h⟩ := ob h
            refine k_gr C0 F_Mo_87 hP e153 d_Mo_execute_153 ?_
            refine lv_bipush (v := 6) hx hb d_Mo_execute_156 bp_6 ?_
            refine lv_iload_n hx hb d_Mo_execute_158 rfl (lv_at hl 3 rfl) ?_
            refine lv_imul hx hb d_Mo_execute_159 ?_
            refine lv_aload_n hx hb d_Mo_execute_160 rfl (lv_at hl 4 rfl) ?_
            obtain ⟨q154, e155, h⟩ := ob h
            refine k_gr C0 F_Mo_81 hP e155 d_Mo_execute_161 ?_
            refine lv_iload_n hx hb d_Mo_execute_164 rfl (lv_at hl 3 rfl) ?_
            obtain ⟨x156, e157, h⟩ := ob h
            refine k_ai C0 hP e157 d_Mo_execute_165 ?_
            refine lv_iadd hx hb d_Mo_execute_166 ?_
            refine lv_iconst (v := 1) hx hb d_Mo_execute_167 ic_1 ?_
            refine lv_isub hx hb d_Mo_execute_168 ?_
            obtain ⟨x158, e159, h⟩ := ob h
            refine k_ai C0 hP e159 d_Mo_execute_169 ?_
            obtain ⟨_, e160, h⟩ := ob h
            obtain ⟨M161, e162, h⟩ := ob h
            refine k_cVv C0 L_Mo_209 (As := [.int (((5 * x1) + x103) - 1), .int x158]) (c_Mo_push l G x0 (((5 * x1) + x103) - 1) x158 e162) ⟨rfl, rfl⟩ ⟨Nat.le_of_ble_eq_true rfl, Nat.le_of_ble_eq_true rfl⟩ hP hS (ck_of e160) ly_Mo rfl hl.1 rfl (Nat.le_of_ble_eq_true rfl) d_Mo_execute_170 ⟨Nat.zero_le _, Nat.zero_le _⟩ (fun H locs hP hS => ?_)
            refine lv_goto (tgt := 233) hx hb d_Mo_execute_173 (by decide) ?_
            cases h
            exact r_vret C0 hP hS d_Mo_execute_233
        · rw [if_neg c130] at h
          refine lv_aload_n hx hb d_Mo_execute_128 rfl (lv_at hl 4 rfl) ?_
          refine lv_iload_n hx hb d_Mo_execute_129 rfl (lv_at hl 3 rfl) ?_
          refine lv_iload hx hb d_Mo_execute_130 (lv_at hl 1 rfl) ?_
          refine lv_aload_n hx hb d_Mo_execute_132 rfl (lv_at hl 4 rfl) ?_
          refine lv_iload_n hx hb d_Mo_execute_133 rfl (lv_at hl 3 rfl) ?_
          obtain ⟨_, e163, h⟩ := ob h
          obtain ⟨x166, M164, e165, h⟩ := ob2 h
          refine k_cV C0 L_Mo_239 (As := [.int (((5 * x1) + x103) - 1)]) (c_Mo_pop l G x0 (((5 * x1) + x103) - 1) e165) ⟨rfl, rfl⟩ ⟨Nat.le_of_ble_eq_true rfl, Nat.le_of_ble_eq_true rfl⟩ hP hS (ck_of e163) ly_Mo rfl hl.1 rfl (Nat.le_of_ble_eq_true rfl) d_Mo_execute_134 ⟨Nat.zero_le _, Nat.zero_le _⟩ (fun H locs hP hS => ?_)
          obtain ⟨_, e167, h⟩ := ob h
          obtain ⟨M168, e169, h⟩ := ob h
          refine k_cVv C0 L_Mo_242 (As := [.int (((5 * x1) + x103) - 1), .int x115, .int x166]) (c_Mo_reckon l G x0 (((5 * x1) + x103) - 1) x115 x166 e169) ⟨rfl, rfl⟩ ⟨Nat.le_of_ble_eq_true rfl, Nat.le_of_ble_eq_true rfl⟩ hP hS (ck_of e167) ly_Mo rfl hl.1 rfl (Nat.le_of_ble_eq_true rfl) d_Mo_execute_137 ⟨Nat.zero_le _, Nat.zero_le _⟩ (fun H locs hP hS => ?_)
          refine lv_goto (tgt := 233) hx hb d_Mo_execute_140 (by decide) ?_
          cases h
          exact r_vret C0 hP hS d_Mo_execute_233
      · rw [if_pos c129] at h
        refine lv_aload_n hx hb d_Mo_execute_102 rfl (lv_at hl 4 rfl) ?_
        obtain ⟨q170, e171, h⟩ := ob h
        refine k_gr C0 F_Mo_84 hP e171 d_Mo_execute_103 ?_
        refine lv_iconst (v := 4) hx hb d_Mo_execute_106 ic_4 ?_
        refine lv_iload_n hx hb d_Mo_execute_107 rfl (lv_at hl 3 rfl) ?_
        refine lv_imul hx hb d_Mo_execute_108 ?_
        refine lv_iload hx hb d_Mo_execute_109 (lv_at hl 0 rfl) ?_
        refine lv_iadd hx hb d_Mo_execute_111 ?_
        refine lv_aload_n hx hb d_Mo_execute_112 rfl (lv_at hl 4 rfl) ?_
        refine lv_iload_n hx hb d_Mo_execute_113 rfl (lv_at hl 3 rfl) ?_
        obtain ⟨_, e172, h⟩ := ob h
        obtain ⟨x175, M173, e174, h⟩ := ob2 h
        refine k_cV C0 L_Mo_239 (As := [.int (((5 * x1) + x103) - 1)]) (c_Mo_pop l G x0 (((5 * x1) + x103) - 1) e174) ⟨rfl, rfl⟩ ⟨Nat.le_of_ble_eq_true rfl, Nat.le_of_ble_eq_true rfl⟩ hP hS (ck_of e172) ly_Mo rfl hl.1 rfl (Nat.le_of_ble_eq_true rfl) d_Mo_execute_114 ⟨Nat.zero_le _, Nat.zero_le _⟩ (fun H locs hP hS => ?_)
        obtain ⟨M176, e177, h⟩ := ob h
        refine k_si C0 hP hS e177 d_Mo_execute_117 (fun H locs hP hS => ?_)
        refine lv_goto (tgt := 233) hx hb d_Mo_execute_118 (by decide) ?_
        cases h
        exact r_vret C0 hP hS d_Mo_execute_233
    · rw [if_pos c128] at h
      refine lv_aload_n hx hb d_Mo_execute_77 rfl (lv_at hl 4 rfl) ?_
      refine lv_iload_n hx hb d_Mo_execute_78 rfl (lv_at hl 3 rfl) ?_
      refine lv_aload_n hx hb d_Mo_execute_79 rfl (lv_at hl 4 rfl) ?_
      obtain ⟨q178, e179, h⟩ := ob h
      refine k_gr C0 F_Mo_84 hP e179 d_Mo_execute_80 ?_
      refine lv_iconst (v := 4) hx hb d_Mo_execute_83 ic_4 ?_
      refine lv_iload_n hx hb d_Mo_execute_84 rfl (lv_at hl 3 rfl) ?_
      refine lv_imul hx hb d_Mo_execute_85 ?_
      refine lv_iload hx hb d_Mo_execute_86 (lv_at hl 0 rfl) ?_
      refine lv_iadd hx hb d_Mo_execute_88 ?_
      obtain ⟨x180, e181, h⟩ := ob h
      refine k_ai C0 hP e181 d_Mo_execute_89 ?_
      obtain ⟨_, e182, h⟩ := ob h
      obtain ⟨M183, e184, h⟩ := ob h
      refine k_cVv C0 L_Mo_209 (As := [.int (((5 * x1) + x103) - 1), .int x180]) (c_Mo_push l G x0 (((5 * x1) + x103) - 1) x180 e184) ⟨rfl, rfl⟩ ⟨Nat.le_of_ble_eq_true rfl, Nat.le_of_ble_eq_true rfl⟩ hP hS (ck_of e182) ly_Mo rfl hl.1 rfl (Nat.le_of_ble_eq_true rfl) d_Mo_execute_90 ⟨Nat.zero_le _, Nat.zero_le _⟩ (fun H locs hP hS => ?_)
      refine lv_goto (tgt := 233) hx hb d_Mo_execute_93 (by decide) ?_
      cases h
      exact r_vret C0 hP hS d_Mo_execute_233
  · rw [if_pos c127] at h
    refine lv_aload_n hx hb d_Mo_execute_61 rfl (lv_at hl 4 rfl) ?_
    refine lv_iload_n hx hb d_Mo_execute_62 rfl (lv_at hl 3 rfl) ?_
    refine lv_iload hx hb d_Mo_execute_63 (lv_at hl 0 rfl) ?_
    obtain ⟨_, e185, h⟩ := ob h
    obtain ⟨M186, e187, h⟩ := ob h
    refine k_cVv C0 L_Mo_209 (As := [.int (((5 * x1) + x103) - 1), .int x119]) (c_Mo_push l G x0 (((5 * x1) + x103) - 1) x119 e187) ⟨rfl, rfl⟩ ⟨Nat.le_of_ble_eq_true rfl, Nat.le_of_ble_eq_true rfl⟩ hP hS (ck_of e185) ly_Mo rfl hl.1 rfl (Nat.le_of_ble_eq_true rfl) d_Mo_execute_65 ⟨Nat.zero_le _, Nat.zero_le _⟩ (fun H locs hP hS => ?_)
    refine lv_goto (tgt := 233) hx hb d_Mo_execute_68 (by decide) ?_
    cases h
    exact r_vret C0 hP hS d_Mo_execute_233
/-! AllocationProfilerModel.next -/
def rm_Mo_next : Room := { frames := 0, cells := 0, slots := 0, locals := 0 }
theorem d_Mo_next_0 : decode b_Mo_next 0 = .ok (.iconst 0, 1) := by decide +kernel
theorem d_Mo_next_1 : decode b_Mo_next 1 = .ok (.istore_n 1, 1) := by decide +kernel
theorem d_Mo_next_2 : decode b_Mo_next 2 = .ok (.iload_n 1, 1) := by decide +kernel
theorem d_Mo_next_3 : decode b_Mo_next 3 = .ok (.iconst 3, 1) := by decide +kernel
theorem d_Mo_next_4 : decode b_Mo_next 4 = .ok (.if_icmp .ge 35, 3) := by decide +kernel
theorem d_Mo_next_7 : decode b_Mo_next 7 = .ok (.aload_n 0, 1) := by decide +kernel
theorem d_Mo_next_8 : decode b_Mo_next 8 = .ok (.getfield 69, 3) := by decide +kernel
theorem d_Mo_next_11 : decode b_Mo_next 11 = .ok (.aload_n 0, 1) := by decide +kernel
theorem d_Mo_next_12 : decode b_Mo_next 12 = .ok (.getfield 260, 3) := by decide +kernel
theorem d_Mo_next_15 : decode b_Mo_next 15 = .ok (.iload_n 1, 1) := by decide +kernel
theorem d_Mo_next_16 : decode b_Mo_next 16 = .ok (.iadd, 1) := by decide +kernel
theorem d_Mo_next_17 : decode b_Mo_next 17 = .ok (.iconst 3, 1) := by decide +kernel
theorem d_Mo_next_18 : decode b_Mo_next 18 = .ok (.irem, 1) := by decide +kernel
theorem d_Mo_next_19 : decode b_Mo_next 19 = .ok (.iaload, 1) := by decide +kernel
theorem d_Mo_next_20 : decode b_Mo_next 20 = .ok (.iconst 1, 1) := by decide +kernel
theorem d_Mo_next_21 : decode b_Mo_next 21 = .ok (.if_icmp .ne 12, 3) := by decide +kernel
theorem d_Mo_next_24 : decode b_Mo_next 24 = .ok (.aload_n 0, 1) := by decide +kernel
theorem d_Mo_next_25 : decode b_Mo_next 25 = .ok (.getfield 260, 3) := by decide +kernel
theorem d_Mo_next_28 : decode b_Mo_next 28 = .ok (.iload_n 1, 1) := by decide +kernel
theorem d_Mo_next_29 : decode b_Mo_next 29 = .ok (.iadd, 1) := by decide +kernel
theorem d_Mo_next_30 : decode b_Mo_next 30 = .ok (.iconst 3, 1) := by decide +kernel
theorem d_Mo_next_31 : decode b_Mo_next 31 = .ok (.irem, 1) := by decide +kernel
theorem d_Mo_next_32 : decode b_Mo_next 32 = .ok (.ireturn, 1) := by decide +kernel
theorem d_Mo_next_33 : decode b_Mo_next 33 = .ok (.iinc 1 1, 3) := by decide +kernel
theorem d_Mo_next_36 : decode b_Mo_next 36 = .ok (.goto (-34), 3) := by decide +kernel
theorem d_Mo_next_39 : decode b_Mo_next 39 = .ok (.iconst (-1), 1) := by decide +kernel
theorem d_Mo_next_40 : decode b_Mo_next 40 = .ok (.ireturn, 1) := by decide +kernel
def h_Mo_next_2 : Nat → Nat → Int32 → fm_M → Option (Int32 × fm_M)
  | 0, _, _, _ => none
  | n + 1, x0, x1, M =>
    if 3 ≤ x1 then
      some ((-1), M)
    else
      (gr x0 10 26).bind fun q102 =>
      (gi x0 10 33 M).bind fun x104 =>
      (ai q102 ((x104 + x1) - (x104 + x1) / 3 * 3) M).bind fun x106 =>
      if x106 = 1 then
        (gi x0 10 33 M).bind fun x109 =>
        some (((x109 + x1) - (x109 + x1) / 3 * 3), M)
      else
        h_Mo_next_2 n x0 (x1 + 1) M
def f_Mo_next (x0 : Nat) (M : fm_M) : Option (Int32 × fm_M) :=
  h_Mo_next_2 100000 x0 0 M
set_option maxHeartbeats 4000000 in
set_option maxRecDepth 100000 in
theorem w_Mo_next_2 {p : Program} {l : Launch} {e : Env} {s : State} {m : MethodId} {args : Array Value} {below : List Frame} {meth : Method} {c : Code} {G : fm_G} (C0 : fm_C p s m args meth c G (.code y_Mo_next b_Mo_next 2 (some .int)) "AllocationProfilerModel" b_Mo_next 2 (some .int)) {v : Int32} {M' : fm_M} : ∀ (n : Nat) (x0 : Nat) (x1 : Int32) {M : fm_M} {H : Heap} {locs : List Loc}, kP G M H → kS G s H locs → ∀ {ls : Array Slot}, lv_has ls 2 [(0, .ref (G.2.2 + x0)), (1, .int x1)] → h_Mo_next_2 n x0 x1 M = some (v, M') → W p l e rm_Mo_next s m args below meth c H locs 0 0 (MQ below (fm_Q G 212 shF (some (.int v)) M') args s 0 0 (fm_A G.2.2)) (F0 m 2 ls []) := by
  have hx := C0.1
  have hb := C0.2.1
  intro n
  induction n with
  | zero =>
    intro x0 x1 M H locs hP hS ls hl h
    exact nomatch h
  | succ n ih =>
    intro x0 x1 M H locs hP hS ls hl h
    have h : (if 3 ≤ x1 then
        some ((-1), M)
      else
        (gr x0 10 26).bind fun q102 =>
        (gi x0 10 33 M).bind fun x104 =>
        (ai q102 ((x104 + x1) - (x104 + x1) / 3 * 3) M).bind fun x106 =>
        if x106 = 1 then
          (gi x0 10 33 M).bind fun x109 =>
          some (((x109 + x1) - (x109 + x1) / 3 * 3), M)
        else
          h_Mo_next_2 n x0 (x1 + 1) M) = some (v, M') := h
    refine lv_iload_n hx hb d_Mo_next_2 rfl (lv_at hl 1 rfl) ?_
    refine lv_iconst (v := 3) hx hb d_Mo_next_3 ic_3 ?_
    refine lv_icmp_ge (tgt := 39) hx hb d_Mo_next_4 (by decide) (fun c101 => ?_) (fun c101 => ?_)
    · rw [if_pos c101] at h
      refine lv_iconst (v := (-1)) hx hb d_Mo_next_39 ic_m1 ?_
      cases h
      exact r_iret C0 hP hS d_Mo_next_40
    · rw [if_neg c101] at h
      refine lv_aload_n hx hb d_Mo_next_7 rfl (lv_at hl 0 rfl) ?_
      obtain ⟨q102, e103, h⟩ := ob h
      refine k_gr C0 F_Mo_69 hP e103 d_Mo_next_8 ?_
      refine lv_aload_n hx hb d_Mo_next_11 rfl (lv_at hl 0 rfl) ?_
      obtain ⟨x104, e105, h⟩ := ob h
      refine k_gi C0 F_Mo_260 ik_10_33 hP e105 d_Mo_next_12 ?_
      refine lv_iload_n hx hb d_Mo_next_15 rfl (lv_at hl 1 rfl) ?_
      refine lv_iadd hx hb d_Mo_next_16 ?_
      refine lv_iconst (v := 3) hx hb d_Mo_next_17 ic_3 ?_
      refine lv_irem hx hb d_Mo_next_18 (by decide) ?_
      obtain ⟨x106, e107, h⟩ := ob h
      refine k_ai C0 hP e107 d_Mo_next_19 ?_
      refine lv_iconst (v := 1) hx hb d_Mo_next_20 ic_1 ?_
      refine lv_icmp_ne (tgt := 33) hx hb d_Mo_next_21 (by decide) (fun c108 => ?_) (fun c108 => ?_)
      · rw [if_neg c108] at h
        refine lv_iinc (v := (x1 + 1)) (lv' := [(1, .int (x1 + 1)), (0, .ref (G.2.2 + x0))]) hx hb d_Mo_next_33 hl (k := 1) rfl (congrArg (fun z => x1 + z) ic_1) (by decide) rfl (fun ls hl => ?_)
        refine lv_goto (tgt := 2) hx hb d_Mo_next_36 (by decide) ?_
        exact ih x0 (x1 + 1) hP hS (lv_sub hl [1, 0] rfl) h
      · rw [if_pos c108] at h
        refine lv_aload_n hx hb d_Mo_next_24 rfl (lv_at hl 0 rfl) ?_
        obtain ⟨x109, e110, h⟩ := ob h
        refine k_gi C0 F_Mo_260 ik_10_33 hP e110 d_Mo_next_25 ?_
        refine lv_iload_n hx hb d_Mo_next_28 rfl (lv_at hl 1 rfl) ?_
        refine lv_iadd hx hb d_Mo_next_29 ?_
        refine lv_iconst (v := 3) hx hb d_Mo_next_30 ic_3 ?_
        refine lv_irem hx hb d_Mo_next_31 (by decide) ?_
        cases h
        exact r_iret C0 hP hS d_Mo_next_32
set_option maxHeartbeats 4000000 in
set_option maxRecDepth 100000 in
theorem c_Mo_next (l : Launch) (G : fm_G) (x0 : Nat) {v : Int32} {M M' : fm_M} (h : f_Mo_next x0 M = some (v, M')) : kMet l y_Mo_next b_Mo_next 2 (some .int) rm_Mo_next G M [.ref (G.2.2 + x0)] (some (.int v)) M' := by
  refine r_met (by decide) rfl (Nat.le_of_ble_eq_true rfl) (fun p e s m args below meth c C0 hP ls hl => ?_)
  have hx := C0.1
  have hb := C0.2.1
  have hl : lv_has ls 2 [(0, .ref (G.2.2 + x0))] := hl
  have hS : va_S (fm_A G.2.2) s.heap s.heap [] := va_S.rf
  unfold f_Mo_next at h
  refine lv_iconst (v := 0) hx hb d_Mo_next_0 ic_0 ?_
  refine lv_istore_n (lv' := [(1, .int 0), (0, .ref (G.2.2 + x0))]) hx hb d_Mo_next_1 rfl hl (by decide) rfl (fun ls hl => ?_)
  exact w_Mo_next_2 C0 100000 x0 0 hP hS (lv_sub hl [1, 0] rfl) h
/-! AllocationProfilerModel.all -/
def rm_Mo_all : Room := { frames := 0, cells := 0, slots := 0, locals := 0 }
theorem d_Mo_all_0 : decode b_Mo_all 0 = .ok (.aload_n 0, 1) := by decide +kernel
theorem d_Mo_all_1 : decode b_Mo_all 1 = .ok (.iconst 3, 1) := by decide +kernel
theorem d_Mo_all_2 : decode b_Mo_all 2 = .ok (.iload_n 1, 1) := by decide +kernel
theorem d_Mo_all_3 : decode b_Mo_all 3 = .ok (.imul, 1) := by decide +kernel
theorem d_Mo_all_4 : decode b_Mo_all 4 = .ok (.laload, 1) := by decide +kernel
theorem d_Mo_all_5 : decode b_Mo_all 5 = .ok (.aload_n 0, 1) := by decide +kernel
theorem d_Mo_all_6 : decode b_Mo_all 6 = .ok (.iconst 3, 1) := by decide +kernel
theorem d_Mo_all_7 : decode b_Mo_all 7 = .ok (.iload_n 1, 1) := by decide +kernel
theorem d_Mo_all_8 : decode b_Mo_all 8 = .ok (.imul, 1) := by decide +kernel
theorem d_Mo_all_9 : decode b_Mo_all 9 = .ok (.iconst 1, 1) := by decide +kernel
theorem d_Mo_all_10 : decode b_Mo_all 10 = .ok (.iadd, 1) := by decide +kernel
theorem d_Mo_all_11 : decode b_Mo_all 11 = .ok (.laload, 1) := by decide +kernel
theorem d_Mo_all_12 : decode b_Mo_all 12 = .ok (.ladd, 1) := by decide +kernel
theorem d_Mo_all_13 : decode b_Mo_all 13 = .ok (.aload_n 0, 1) := by decide +kernel
theorem d_Mo_all_14 : decode b_Mo_all 14 = .ok (.iconst 3, 1) := by decide +kernel
theorem d_Mo_all_15 : decode b_Mo_all 15 = .ok (.iload_n 1, 1) := by decide +kernel
theorem d_Mo_all_16 : decode b_Mo_all 16 = .ok (.imul, 1) := by decide +kernel
theorem d_Mo_all_17 : decode b_Mo_all 17 = .ok (.iconst 2, 1) := by decide +kernel
theorem d_Mo_all_18 : decode b_Mo_all 18 = .ok (.iadd, 1) := by decide +kernel
theorem d_Mo_all_19 : decode b_Mo_all 19 = .ok (.laload, 1) := by decide +kernel
theorem d_Mo_all_20 : decode b_Mo_all 20 = .ok (.ladd, 1) := by decide +kernel
theorem d_Mo_all_21 : decode b_Mo_all 21 = .ok (.lreturn, 1) := by decide +kernel
def f_Mo_all (x0 : Nat) (x1 : Int32) (M : fm_M) : Option (Int64 × fm_M) :=
  (aj x0 (3 * x1) M).bind fun x101 =>
  (aj x0 ((3 * x1) + 1) M).bind fun x103 =>
  (aj x0 ((3 * x1) + 2) M).bind fun x105 =>
  some (((x101 + x103) + x105), M)
set_option maxHeartbeats 4000000 in
set_option maxRecDepth 100000 in
theorem c_Mo_all (l : Launch) (G : fm_G) (x0 : Nat) (x1 : Int32) {v : Int64} {M M' : fm_M} (h : f_Mo_all x0 x1 M = some (v, M')) : kMet l y_Mo_all b_Mo_all 2 (some .long) rm_Mo_all G M [.ref (G.2.2 + x0), .int x1] (some (.long v)) M' := by
  refine r_met (by decide) rfl (Nat.le_of_ble_eq_true rfl) (fun p e s m args below meth c C0 hP ls hl => ?_)
  have hx := C0.1
  have hb := C0.2.1
  have hl : lv_has ls 2 [(0, .ref (G.2.2 + x0)), (1, .int x1)] := hl
  have hS : va_S (fm_A G.2.2) s.heap s.heap [] := va_S.rf
  unfold f_Mo_all at h
  refine lv_aload_n hx hb d_Mo_all_0 rfl (lv_at hl 0 rfl) ?_
  refine lv_iconst (v := 3) hx hb d_Mo_all_1 ic_3 ?_
  refine lv_iload_n hx hb d_Mo_all_2 rfl (lv_at hl 1 rfl) ?_
  refine lv_imul hx hb d_Mo_all_3 ?_
  obtain ⟨x101, e102, h⟩ := ob h
  refine k_aj C0 hP e102 d_Mo_all_4 ?_
  refine lv_aload_n hx hb d_Mo_all_5 rfl (lv_at hl 0 rfl) ?_
  refine lv_iconst (v := 3) hx hb d_Mo_all_6 ic_3 ?_
  refine lv_iload_n hx hb d_Mo_all_7 rfl (lv_at hl 1 rfl) ?_
  refine lv_imul hx hb d_Mo_all_8 ?_
  refine lv_iconst (v := 1) hx hb d_Mo_all_9 ic_1 ?_
  refine lv_iadd hx hb d_Mo_all_10 ?_
  obtain ⟨x103, e104, h⟩ := ob h
  refine k_aj C0 hP e104 d_Mo_all_11 ?_
  refine lv_ladd hx hb d_Mo_all_12 ?_
  refine lv_aload_n hx hb d_Mo_all_13 rfl (lv_at hl 0 rfl) ?_
  refine lv_iconst (v := 3) hx hb d_Mo_all_14 ic_3 ?_
  refine lv_iload_n hx hb d_Mo_all_15 rfl (lv_at hl 1 rfl) ?_
  refine lv_imul hx hb d_Mo_all_16 ?_
  refine lv_iconst (v := 2) hx hb d_Mo_all_17 ic_2 ?_
  refine lv_iadd hx hb d_Mo_all_18 ?_
  obtain ⟨x105, e106, h⟩ := ob h
  refine k_aj C0 hP e106 d_Mo_all_19 ?_
  refine lv_ladd hx hb d_Mo_all_20 ?_
  cases h
  exact r_lret C0 hP hS d_Mo_all_21
/-! AllocationProfilerModel.fade -/
def rm_Mo_fade : Room := { frames := 1, cells := 0, slots := 0, locals := 21 }
theorem d_Mo_fade_0 : decode b_Mo_fade 0 = .ok (.iconst 0, 1) := by decide +kernel
theorem d_Mo_fade_1 : decode b_Mo_fade 1 = .ok (.istore_n 1, 1) := by decide +kernel
theorem d_Mo_fade_2 : decode b_Mo_fade 2 = .ok (.iload_n 1, 1) := by decide +kernel
theorem d_Mo_fade_3 : decode b_Mo_fade 3 = .ok (.aload_n 0, 1) := by decide +kernel
theorem d_Mo_fade_4 : decode b_Mo_fade 4 = .ok (.getfield 192, 3) := by decide +kernel
theorem d_Mo_fade_7 : decode b_Mo_fade 7 = .ok (.if_icmp .ge 55, 3) := by decide +kernel
theorem d_Mo_fade_10 : decode b_Mo_fade 10 = .ok (.aload_n 0, 1) := by decide +kernel
theorem d_Mo_fade_11 : decode b_Mo_fade 11 = .ok (.getfield 97, 3) := by decide +kernel
theorem d_Mo_fade_14 : decode b_Mo_fade 14 = .ok (.iload_n 1, 1) := by decide +kernel
theorem d_Mo_fade_15 : decode b_Mo_fade 15 = .ok (.invokestatic 275, 3) := by decide +kernel
theorem d_Mo_fade_18 : decode b_Mo_fade 18 = .ok (.lstore_n 2, 1) := by decide +kernel
theorem d_Mo_fade_19 : decode b_Mo_fade 19 = .ok (.aload_n 0, 1) := by decide +kernel
theorem d_Mo_fade_20 : decode b_Mo_fade 20 = .ok (.getfield 103, 3) := by decide +kernel
theorem d_Mo_fade_23 : decode b_Mo_fade 23 = .ok (.iload_n 1, 1) := by decide +kernel
theorem d_Mo_fade_24 : decode b_Mo_fade 24 = .ok (.aload_n 0, 1) := by decide +kernel
theorem d_Mo_fade_25 : decode b_Mo_fade 25 = .ok (.getfield 103, 3) := by decide +kernel
theorem d_Mo_fade_28 : decode b_Mo_fade 28 = .ok (.iload_n 1, 1) := by decide +kernel
theorem d_Mo_fade_29 : decode b_Mo_fade 29 = .ok (.faload, 1) := by decide +kernel
theorem d_Mo_fade_30 : decode b_Mo_fade 30 = .ok (.ldc_w 279, 3) := by decide +kernel
theorem d_Mo_fade_33 : decode b_Mo_fade 33 = .ok (.fmul, 1) := by decide +kernel
theorem d_Mo_fade_34 : decode b_Mo_fade 34 = .ok (.lload_n 2, 1) := by decide +kernel
theorem d_Mo_fade_35 : decode b_Mo_fade 35 = .ok (.aload_n 0, 1) := by decide +kernel
theorem d_Mo_fade_36 : decode b_Mo_fade 36 = .ok (.getfield 107, 3) := by decide +kernel
theorem d_Mo_fade_39 : decode b_Mo_fade 39 = .ok (.iload_n 1, 1) := by decide +kernel
theorem d_Mo_fade_40 : decode b_Mo_fade 40 = .ok (.laload, 1) := by decide +kernel
theorem d_Mo_fade_41 : decode b_Mo_fade 41 = .ok (.lsub, 1) := by decide +kernel
theorem d_Mo_fade_42 : decode b_Mo_fade 42 = .ok (.l2f, 1) := by decide +kernel
theorem d_Mo_fade_43 : decode b_Mo_fade 43 = .ok (.ldc_w 280, 3) := by decide +kernel
theorem d_Mo_fade_46 : decode b_Mo_fade 46 = .ok (.fmul, 1) := by decide +kernel
theorem d_Mo_fade_47 : decode b_Mo_fade 47 = .ok (.fadd, 1) := by decide +kernel
theorem d_Mo_fade_48 : decode b_Mo_fade 48 = .ok (.fastore, 1) := by decide +kernel
theorem d_Mo_fade_49 : decode b_Mo_fade 49 = .ok (.aload_n 0, 1) := by decide +kernel
theorem d_Mo_fade_50 : decode b_Mo_fade 50 = .ok (.getfield 107, 3) := by decide +kernel
theorem d_Mo_fade_53 : decode b_Mo_fade 53 = .ok (.iload_n 1, 1) := by decide +kernel
theorem d_Mo_fade_54 : decode b_Mo_fade 54 = .ok (.lload_n 2, 1) := by decide +kernel
theorem d_Mo_fade_55 : decode b_Mo_fade 55 = .ok (.lastore, 1) := by decide +kernel
theorem d_Mo_fade_56 : decode b_Mo_fade 56 = .ok (.iinc 1 1, 3) := by decide +kernel
theorem d_Mo_fade_59 : decode b_Mo_fade 59 = .ok (.goto (-57), 3) := by decide +kernel
theorem d_Mo_fade_62 : decode b_Mo_fade 62 = .ok (.return_, 1) := by decide +kernel
def h_Mo_fade_2 : Nat → Nat → Int32 → fm_M → Option fm_M
  | 0, _, _, _ => none
  | n + 1, x0, x1, M =>
    (gi x0 10 23 M).bind fun x101 =>
    if x101 ≤ x1 then
      some M
    else
      (gr x0 10 38).bind fun q104 =>
      bd (f_Mo_all q104 x1 M) fun x108 M106 =>
      (gr x0 10 40).bind fun q109 =>
      (gr x0 10 40).bind fun q111 =>
      (af q111 x1 M106).bind fun x113 =>
      (nn32 (FP.fmul x113 1061158912)).bind fun _ =>
      (gr x0 10 41).bind fun q116 =>
      (aj q116 x1 M106).bind fun x118 =>
      (nn32 (FP.fmul (FP.l2f (x108 - x118)) 1048576000)).bind fun _ =>
      (nn32 (FP.fadd (FP.fmul x113 1061158912) (FP.fmul (FP.l2f (x108 - x118)) 1048576000))).bind fun _ =>
      (sf q109 x1 (FP.fadd (FP.fmul x113 1061158912) (FP.fmul (FP.l2f (x108 - x118)) 1048576000)) M106).bind fun M122 =>
      (gr x0 10 41).bind fun q124 =>
      (sj q124 x1 x108 M122).bind fun M126 =>
      h_Mo_fade_2 n x0 (x1 + 1) M126
def f_Mo_fade (x0 : Nat) (M : fm_M) : Option fm_M :=
  h_Mo_fade_2 100000 x0 0 M
set_option maxHeartbeats 4000000 in
set_option maxRecDepth 100000 in
theorem w_Mo_fade_2 {p : Program} {l : Launch} {e : Env} {s : State} {m : MethodId} {args : Array Value} {below : List Frame} {meth : Method} {c : Code} {G : fm_G} (C0 : fm_C p s m args meth c G (.code y_Mo_fade b_Mo_fade 4 none) "AllocationProfilerModel" b_Mo_fade 4 none) {M' : fm_M} : ∀ (n : Nat) (x0 : Nat) (x1 : Int32) {M : fm_M} {H : Heap} {locs : List Loc}, kP G M H → kS G s H locs → ∀ {ls : Array Slot}, lv_has ls 4 [(0, .ref (G.2.2 + x0)), (1, .int x1)] → h_Mo_fade_2 n x0 x1 M = some M' → W p l e rm_Mo_fade s m args below meth c H locs 0 0 (MQ below (fm_Q G 212 shF none M') args s 0 0 (fm_A G.2.2)) (F0 m 2 ls []) := by
  have hx := C0.1
  have hb := C0.2.1
  have hown := C0.2.2.2.2.1
  have hts := C0.2.2.2.2.2.1
  intro n
  induction n with
  | zero =>
    intro x0 x1 M H locs hP hS ls hl h
    exact nomatch h
  | succ n ih =>
    intro x0 x1 M H locs hP hS ls hl h
    have h : ((gi x0 10 23 M).bind fun x101 =>
      if x101 ≤ x1 then
        some M
      else
        (gr x0 10 38).bind fun q104 =>
        bd (f_Mo_all q104 x1 M) fun x108 M106 =>
        (gr x0 10 40).bind fun q109 =>
        (gr x0 10 40).bind fun q111 =>
        (af q111 x1 M106).bind fun x113 =>
        (nn32 (FP.fmul x113 1061158912)).bind fun _ =>
        (gr x0 10 41).bind fun q116 =>
        (aj q116 x1 M106).bind fun x118 =>
        (nn32 (FP.fmul (FP.l2f (x108 - x118)) 1048576000)).bind fun _ =>
        (nn32 (FP.fadd (FP.fmul x113 1061158912) (FP.fmul (FP.l2f (x108 - x118)) 1048576000))).bind fun _ =>
        (sf q109 x1 (FP.fadd (FP.fmul x113 1061158912) (FP.fmul (FP.l2f (x108 - x118)) 1048576000)) M106).bind fun M122 =>
        (gr x0 10 41).bind fun q124 =>
        (sj q124 x1 x108 M122).bind fun M126 =>
        h_Mo_fade_2 n x0 (x1 + 1) M126) = some M' := h
    refine lv_iload_n hx hb d_Mo_fade_2 rfl (lv_at hl 1 rfl) ?_
    refine lv_aload_n hx hb d_Mo_fade_3 rfl (lv_at hl 0 rfl) ?_
    obtain ⟨x101, e102, h⟩ := ob h
    refine k_gi C0 F_Mo_192 ik_10_23 hP e102 d_Mo_fade_4 ?_
    refine lv_icmp_ge (tgt := 62) hx hb d_Mo_fade_7 (by decide) (fun c103 => ?_) (fun c103 => ?_)
    · rw [if_pos c103] at h
      cases h
      exact r_vret C0 hP hS d_Mo_fade_62
    · rw [if_neg c103] at h
      refine lv_aload_n hx hb d_Mo_fade_10 rfl (lv_at hl 0 rfl) ?_
      obtain ⟨q104, e105, h⟩ := ob h
      refine k_gr C0 F_Mo_97 hP e105 d_Mo_fade_11 ?_
      refine lv_iload_n hx hb d_Mo_fade_14 rfl (lv_at hl 1 rfl) ?_
      obtain ⟨x108, M106, e107, h⟩ := ob2 h
      refine k_cS C0 L_Mo_275 (As := [.ref (G.2.2 + q104), .int x1]) (c_Mo_all l G q104 x1 e107) ⟨rfl, rfl⟩ ⟨Nat.le_of_ble_eq_true rfl, Nat.le_of_ble_eq_true rfl⟩ hP hS rfl hl.1 rfl (Nat.le_of_ble_eq_true rfl) d_Mo_fade_15 ⟨Nat.zero_le _, Nat.zero_le _⟩ (fun H locs hP hS => ?_)
      refine lv_lstore_n (lv' := [(2, .long x108), (0, .ref (G.2.2 + x0)), (1, .int x1)]) hx hb d_Mo_fade_18 rfl hl (by decide) rfl (fun ls hl => ?_)
      refine lv_aload_n hx hb d_Mo_fade_19 rfl (lv_at hl 1 rfl) ?_
      obtain ⟨q109, e110, h⟩ := ob h
      refine k_gr C0 F_Mo_103 hP e110 d_Mo_fade_20 ?_
      refine lv_iload_n hx hb d_Mo_fade_23 rfl (lv_at hl 2 rfl) ?_
      refine lv_aload_n hx hb d_Mo_fade_24 rfl (lv_at hl 1 rfl) ?_
      obtain ⟨q111, e112, h⟩ := ob h
      refine k_gr C0 F_Mo_103 hP e112 d_Mo_fade_25 ?_
      refine lv_iload_n hx hb d_Mo_fade_28 rfl (lv_at hl 2 rfl) ?_
      obtain ⟨x113, e114, h⟩ := ob h
      refine k_af C0 hP e114 d_Mo_fade_29 ?_
      refine k_ldcwf (v := 1061158912) hx hb hown (hts _ (List.mem_cons_of_mem _ (gT_in 1307 (by decide +kernel) rfl))) d_Mo_fade_30 ?_
      obtain ⟨_, e115, h⟩ := ob h
      refine lv_fmul hx hb d_Mo_fade_33 (nn32_of e115) ?_
      refine lv_lload_n hx hb d_Mo_fade_34 rfl (lv_at hl 0 rfl) ?_
      refine lv_aload_n hx hb d_Mo_fade_35 rfl (lv_at hl 1 rfl) ?_
      obtain ⟨q116, e117, h⟩ := ob h
      refine k_gr C0 F_Mo_107 hP e117 d_Mo_fade_36 ?_
      refine lv_iload_n hx hb d_Mo_fade_39 rfl (lv_at hl 2 rfl) ?_
      obtain ⟨x118, e119, h⟩ := ob h
      refine k_aj C0 hP e119 d_Mo_fade_40 ?_
      refine lv_lsub hx hb d_Mo_fade_41 ?_
      refine lv_l2f hx hb d_Mo_fade_42 ?_
      refine k_ldcwf (v := 1048576000) hx hb hown (hts _ (List.mem_cons_of_mem _ (gT_in 1308 (by decide +kernel) rfl))) d_Mo_fade_43 ?_
      obtain ⟨_, e120, h⟩ := ob h
      refine lv_fmul hx hb d_Mo_fade_46 (nn32_of e120) ?_
      obtain ⟨_, e121, h⟩ := ob h
      refine lv_fadd hx hb d_Mo_fade_47 (nn32_of e121) ?_
      obtain ⟨M122, e123, h⟩ := ob h
      refine k_sf C0 hP hS e123 d_Mo_fade_48 (fun H locs hP hS => ?_)
      refine lv_aload_n hx hb d_Mo_fade_49 rfl (lv_at hl 1 rfl) ?_
      obtain ⟨q124, e125, h⟩ := ob h
      refine k_gr C0 F_Mo_107 hP e125 d_Mo_fade_50 ?_
      refine lv_iload_n hx hb d_Mo_fade_53 rfl (lv_at hl 2 rfl) ?_
      refine lv_lload_n hx hb d_Mo_fade_54 rfl (lv_at hl 0 rfl) ?_
      obtain ⟨M126, e127, h⟩ := ob h
      refine k_sj C0 hP hS e127 d_Mo_fade_55 (fun H locs hP hS => ?_)
      refine lv_iinc (v := (x1 + 1)) (lv' := [(1, .int (x1 + 1)), (2, .long x108), (0, .ref (G.2.2 + x0))]) hx hb d_Mo_fade_56 hl (k := 2) rfl (congrArg (fun z => x1 + z) ic_1) (by decide) rfl (fun ls hl => ?_)
      refine lv_goto (tgt := 2) hx hb d_Mo_fade_59 (by decide) ?_
      exact ih x0 (x1 + 1) hP hS (lv_sub hl [2, 0] rfl) h
set_option maxHeartbeats 4000000 in
set_option maxRecDepth 100000 in
theorem c_Mo_fade (l : Launch) (G : fm_G) (x0 : Nat) {M M' : fm_M} (h : f_Mo_fade x0 M = some M') : kMet l y_Mo_fade b_Mo_fade 4 none rm_Mo_fade G M [.ref (G.2.2 + x0)] none M' := by
  refine r_met (by decide) rfl (Nat.le_of_ble_eq_true rfl) (fun p e s m args below meth c C0 hP ls hl => ?_)
  have hx := C0.1
  have hb := C0.2.1
  have hown := C0.2.2.2.2.1
  have hts := C0.2.2.2.2.2.1
  have hl : lv_has ls 4 [(0, .ref (G.2.2 + x0))] := hl
  have hS : va_S (fm_A G.2.2) s.heap s.heap [] := va_S.rf
  unfold f_Mo_fade at h
  refine lv_iconst (v := 0) hx hb d_Mo_fade_0 ic_0 ?_
  refine lv_istore_n (lv' := [(1, .int 0), (0, .ref (G.2.2 + x0))]) hx hb d_Mo_fade_1 rfl hl (by decide) rfl (fun ls hl => ?_)
  exact w_Mo_fade_2 C0 100000 x0 0 hP hS (lv_sub hl [1, 0] rfl) h
