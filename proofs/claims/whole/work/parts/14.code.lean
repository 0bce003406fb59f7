/-! AllocationProfiler$Machine.raise -/
def rm_Machine_raise : Room := { frames := 2, cells := 0, slots := 0, locals := 44 }
theorem d_Machine_raise_0 : decode b_Machine_raise 0 = .ok (.aload_n 1, 1) := by decide +kernel
theorem d_Machine_raise_1 : decode b_Machine_raise 1 = .ok (.getfield 167, 3) := by decide +kernel
theorem d_Machine_raise_4 : decode b_Machine_raise 4 = .ok (.istore_n 3, 1) := by decide +kernel
theorem d_Machine_raise_5 : decode b_Machine_raise 5 = .ok (.iload_n 3, 1) := by decide +kernel
theorem d_Machine_raise_6 : decode b_Machine_raise 6 = .ok (.ifCond .le 50, 3) := by decide +kernel
theorem d_Machine_raise_9 : decode b_Machine_raise 9 = .ok (.aload_n 1, 1) := by decide +kernel
theorem d_Machine_raise_10 : decode b_Machine_raise 10 = .ok (.invokevirtual 78, 3) := by decide +kernel
theorem d_Machine_raise_13 : decode b_Machine_raise 13 = .ok (.astore 4, 2) := by decide +kernel
theorem d_Machine_raise_15 : decode b_Machine_raise 15 = .ok (.aload_n 0, 1) := by decide +kernel
theorem d_Machine_raise_16 : decode b_Machine_raise 16 = .ok (.aload 4, 2) := by decide +kernel
theorem d_Machine_raise_18 : decode b_Machine_raise 18 = .ok (.invokevirtual 82, 3) := by decide +kernel
theorem d_Machine_raise_21 : decode b_Machine_raise 21 = .ok (.aload 4, 2) := by decide +kernel
theorem d_Machine_raise_23 : decode b_Machine_raise 23 = .ok (.getfield 86, 3) := by decide +kernel
theorem d_Machine_raise_26 : decode b_Machine_raise 26 = .ok (.invokevirtual 170, 3) := by decide +kernel
theorem d_Machine_raise_29 : decode b_Machine_raise 29 = .ok (.istore 5, 2) := by decide +kernel
theorem d_Machine_raise_31 : decode b_Machine_raise 31 = .ok (.iload 5, 2) := by decide +kernel
theorem d_Machine_raise_33 : decode b_Machine_raise 33 = .ok (.iconst (-1), 1) := by decide +kernel
theorem d_Machine_raise_34 : decode b_Machine_raise 34 = .ok (.if_icmp .eq 12, 3) := by decide +kernel
theorem d_Machine_raise_37 : decode b_Machine_raise 37 = .ok (.aload 4, 2) := by decide +kernel
theorem d_Machine_raise_39 : decode b_Machine_raise 39 = .ok (.iload 5, 2) := by decide +kernel
theorem d_Machine_raise_41 : decode b_Machine_raise 41 = .ok (.iload_n 2, 1) := by decide +kernel
theorem d_Machine_raise_42 : decode b_Machine_raise 42 = .ok (.invokevirtual 173, 3) := by decide +kernel
theorem d_Machine_raise_45 : decode b_Machine_raise 45 = .ok (.return_, 1) := by decide +kernel
theorem d_Machine_raise_46 : decode b_Machine_raise 46 = .ok (.aload_n 1, 1) := by decide +kernel
theorem d_Machine_raise_47 : decode b_Machine_raise 47 = .ok (.invokevirtual 161, 3) := by decide +kernel
theorem d_Machine_raise_50 : decode b_Machine_raise 50 = .ok (.iinc 3 (-1), 3) := by decide +kernel
theorem d_Machine_raise_53 : decode b_Machine_raise 53 = .ok (.goto (-48), 3) := by decide +kernel
theorem d_Machine_raise_56 : decode b_Machine_raise 56 = .ok (.aload_n 1, 1) := by decide +kernel
theorem d_Machine_raise_57 : decode b_Machine_raise 57 = .ok (.iconst 3, 1) := by decide +kernel
theorem d_Machine_raise_58 : decode b_Machine_raise 58 = .ok (.iload_n 2, 1) := by decide +kernel
theorem d_Machine_raise_59 : decode b_Machine_raise 59 = .ok (.invokevirtual 164, 3) := by decide +kernel
theorem d_Machine_raise_62 : decode b_Machine_raise 62 = .ok (.return_, 1) := by decide +kernel
def h_Machine_raise_5 : Nat → Nat → Nat → Int32 → Int32 → fm_M → Option fm_M
  | 0, _, _, _, _, _ => none
  | n + 1, x0, x1, x2, x3, M =>
    if x3 ≤ 0 then
      (ck x1 7).bind fun _ =>
      (f_Strand_end x1 3 x2 M).bind fun M103 =>
      some M103
    else
      (ck x1 7).bind fun _ =>
      bd (f_Strand_top x1 M) fun q108 M106 =>
      (ck x0 5).bind fun _ =>
      bd (f_Machine_codeOf x0 q108 M106) fun q112 M110 =>
      (gi q108 2 3 M110).bind fun x113 =>
      (ck q112 1).bind fun _ =>
      bd (f_Code_handlerFor q112 x113 M110) fun x118 M116 =>
      if x118 = (-1) then
        (ck x1 7).bind fun _ =>
        (f_Strand_leave x1 M116).bind fun M121 =>
        h_Machine_raise_5 n x0 x1 x2 (x3 + (-1)) M121
      else
        (ck q108 2).bind fun _ =>
        (f_Frame_catchAt q108 x118 x2 M116).bind fun M124 =>
        some M124
def f_Machine_raise (x0 : Nat) (x1 : Nat) (x2 : Int32) (M : fm_M) : Option fm_M :=
  (gi x1 7 2 M).bind fun x126 =>
  h_Machine_raise_5 100000 x0 x1 x2 x126 M
set_option maxHeartbeats 4000000 in
set_option maxRecDepth 100000 in
theorem w_Machine_raise_5 {p : Program} {l : Launch} {e : Env} {s : State} {m : MethodId} {args : Array Value} {below : List Frame} {meth : Method} {c : Code} {G : fm_G} (C0 : fm_C p s m args meth c G (.code y_Machine_raise b_Machine_raise 6 none) "AllocationProfiler$Machine" b_Machine_raise 6 none) {M' : fm_M} : ∀ (n : Nat) (x0 : Nat) (x1 : Nat) (x2 : Int32) (x3 : Int32) {M : fm_M} {H : Heap} {locs : List Loc}, kP G M H → kS G s H locs → ∀ {ls : Array Slot}, lv_has ls 6 [(0, .ref (G.2.2 + x0)), (1, .ref (G.2.2 + x1)), (2, .int x2), (3, .int x3)] → h_Machine_raise_5 n x0 x1 x2 x3 M = some M' → W p l e rm_Machine_raise s m args below meth c H locs 0 0 (MQ below (fm_Q G 212 shF none M') args s 0 0 (fm_A G.2.2)) (F0 m 5 ls []) := by
  have hx := C0.1
  have hb := C0.2.1
  intro n
  induction n with
  | zero =>
    intro x0 x1 x2 x3 M H locs hP hS ls hl h
    exact nomatch h
  | succ n ih =>
    intro x0 x1 x2 x3 M H locs hP hS ls hl h
    have h : (if x3 ≤ 0 then
        (ck x1 7).bind fun _ =>
        (f_Strand_end x1 3 x2 M).bind fun M103 =>
        some M103
      else
        (ck x1 7).bind fun _ =>
        bd (f_Strand_top x1 M) fun q108 M106 =>
        (ck x0 5).bind fun _ =>
        bd (f_Machine_codeOf x0 q108 M106) fun q112 M110 =>
        (gi q108 2 3 M110).bind fun x113 =>
        (ck q112 1).bind fun _ =>
        bd (f_Code_handlerFor q112 x113 M110) fun x118 M116 =>
        if x118 = (-1) then
          (ck x1 7).bind fun _ =>
          (f_Strand_leave x1 M116).bind fun M121 =>
          h_Machine_raise_5 n x0 x1 x2 (x3 + (-1)) M121
        else
          (ck q108 2).bind fun _ =>
          (f_Frame_catchAt q108 x118 x2 M116).bind fun M124 =>
          some M124) = some M' := h
    refine lv_iload_n hx hb d_Machine_raise_5 rfl (lv_at hl 3 rfl) ?_
    refine lv_if_le (tgt := 56) hx hb d_Machine_raise_6 (by decide) (fun c101 => ?_) (fun c101 => ?_)
    · rw [if_pos c101] at h
      refine lv_aload_n hx hb d_Machine_raise_56 rfl (lv_at hl 1 rfl) ?_
      refine lv_iconst (v := 3) hx hb d_Machine_raise_57 ic_3 ?_
      refine lv_iload_n hx hb d_Machine_raise_58 rfl (lv_at hl 2 rfl) ?_
      obtain ⟨_, e102, h⟩ := ob h
      obtain ⟨M103, e104, h⟩ := ob h
      refine k_cVv C0 L_Machine_164 (As := [.int 3, .int x2]) (c_Strand_end l G x1 3 x2 e104) ⟨rfl, rfl⟩ ⟨Nat.le_of_ble_eq_true rfl, Nat.le_of_ble_eq_true rfl⟩ hP hS (ck_of e102) ly_Strand rfl hl.1 rfl (Nat.le_of_ble_eq_true rfl) d_Machine_raise_59 ⟨Nat.zero_le _, Nat.zero_le _⟩ (fun H locs hP hS => ?_)
      cases h
      exact r_vret C0 hP hS d_Machine_raise_62
    · rw [if_neg c101] at h
      refine lv_aload_n hx hb d_Machine_raise_9 rfl (lv_at hl 1 rfl) ?_
      obtain ⟨_, e105, h⟩ := ob h
      obtain ⟨q108, M106, e107, h⟩ := ob2 h
      refine k_cV C0 L_Machine_78 (As := []) (c_Strand_top l G x1 e107) ⟨rfl, rfl⟩ ⟨Nat.le_of_ble_eq_true rfl, Nat.le_of_ble_eq_true rfl⟩ hP hS (ck_of e105) ly_Strand rfl hl.1 rfl (Nat.le_of_ble_eq_true rfl) d_Machine_raise_10 ⟨Nat.zero_le _, Nat.zero_le _⟩ (fun H locs hP hS => ?_)
      refine lv_astore (lv' := [(4, .ref (G.2.2 + q108)), (0, .ref (G.2.2 + x0)), (1, .ref (G.2.2 + x1)), (2, .int x2), (3, .int x3)]) hx hb d_Machine_raise_13 hl (by decide) rfl (fun ls hl => ?_)
      refine lv_aload_n hx hb d_Machine_raise_15 rfl (lv_at hl 1 rfl) ?_
      refine lv_aload hx hb d_Machine_raise_16 (lv_at hl 0 rfl) ?_
      obtain ⟨_, e109, h⟩ := ob h
      obtain ⟨q112, M110, e111, h⟩ := ob2 h
      refine k_cV C0 L_Machine_82 (As := [.ref (G.2.2 + q108)]) (c_Machine_codeOf l G x0 q108 e111) ⟨rfl, rfl⟩ ⟨Nat.le_of_ble_eq_true rfl, Nat.le_of_ble_eq_true rfl⟩ hP hS (ck_of e109) ly_Machine rfl hl.1 rfl (Nat.le_of_ble_eq_true rfl) d_Machine_raise_18 ⟨Nat.zero_le _, Nat.zero_le _⟩ (fun H locs hP hS => ?_)
      refine lv_aload hx hb d_Machine_raise_21 (lv_at hl 0 rfl) ?_
      obtain ⟨x113, e114, h⟩ := ob h
      refine k_gi C0 F_Machine_86 ik_2_3 hP e114 d_Machine_raise_23 ?_
      obtain ⟨_, e115, h⟩ := ob h
      obtain ⟨x118, M116, e117, h⟩ := ob2 h
      refine k_cV C0 L_Machine_170 (As := [.int x113]) (c_Code_handlerFor l G q112 x113 e117) ⟨rfl, rfl⟩ ⟨Nat.le_of_ble_eq_true rfl, Nat.le_of_ble_eq_true rfl⟩ hP hS (ck_of e115) ly_Code rfl hl.1 rfl (Nat.le_of_ble_eq_true rfl) d_Machine_raise_26 ⟨Nat.zero_le _, Nat.zero_le _⟩ (fun H locs hP hS => ?_)
      refine lv_istore (lv' := [(5, .int x118), (4, .ref (G.2.2 + q108)), (0, .ref (G.2.2 + x0)), (1, .ref (G.2.2 + x1)), (2, .int x2), (3, .int x3)]) hx hb d_Machine_raise_29 hl (by decide) rfl (fun ls hl => ?_)
      refine lv_iload hx hb d_Machine_raise_31 (lv_at hl 0 rfl) ?_
      refine lv_iconst (v := (-1)) hx hb d_Machine_raise_33 ic_m1 ?_
      refine lv_icmp_eq (tgt := 46) hx hb d_Machine_raise_34 (by decide) (fun c119 => ?_) (fun c119 => ?_)
      · rw [if_pos c119] at h
        refine lv_aload_n hx hb d_Machine_raise_46 rfl (lv_at hl 3 rfl) ?_
        obtain ⟨_, e120, h⟩ := ob h
        obtain ⟨M121, e122, h⟩ := ob h
        refine k_cVv C0 L_Machine_161 (As := []) (c_Strand_leave l G x1 e122) ⟨rfl, rfl⟩ ⟨Nat.le_of_ble_eq_true rfl, Nat.le_of_ble_eq_true rfl⟩ hP hS (ck_of e120) ly_Strand rfl hl.1 rfl (Nat.le_of_ble_eq_true rfl) d_Machine_raise_47 ⟨Nat.zero_le _, Nat.zero_le _⟩ (fun H locs hP hS => ?_)
        refine lv_iinc (v := (x3 + (-1))) (lv' := [(3, .int (x3 + (-1))), (5, .int x118), (4, .ref (G.2.2 + q108)), (0, .ref (G.2.2 + x0)), (1, .ref (G.2.2 + x1)), (2, .int x2)]) hx hb d_Machine_raise_50 hl (k := 5) rfl (congrArg (fun z => x3 + z) ic_m1) (by decide) rfl (fun ls hl => ?_)
        refine lv_goto (tgt := 5) hx hb d_Machine_raise_53 (by decide) ?_
        exact ih x0 x1 x2 (x3 + (-1)) hP hS (lv_sub hl [3, 4, 5, 0] rfl) h
      · rw [if_neg c119] at h
        refine lv_aload hx hb d_Machine_raise_37 (lv_at hl 1 rfl) ?_
        refine lv_iload hx hb d_Machine_raise_39 (lv_at hl 0 rfl) ?_
        refine lv_iload_n hx hb d_Machine_raise_41 rfl (lv_at hl 4 rfl) ?_
        obtain ⟨_, e123, h⟩ := ob h
        obtain ⟨M124, e125, h⟩ := ob h
        refine k_cVv C0 L_Machine_173 (As := [.int x118, .int x2]) (c_Frame_catchAt l G q108 x118 x2 e125) ⟨rfl, rfl⟩ ⟨Nat.le_of_ble_eq_true rfl, Nat.le_of_ble_eq_true rfl⟩ hP hS (ck_of e123) ly_Frame rfl hl.1 rfl (Nat.le_of_ble_eq_true rfl) d_Machine_raise_42 ⟨Nat.zero_le _, Nat.zero_le _⟩ (fun H locs hP hS => ?_)
        cases h
        exact r_vret C0 hP hS d_Machine_raise_45
set_option maxHeartbeats 4000000 in
set_option maxRecDepth 100000 in
theorem c_Machine_raise (l : Launch) (G : fm_G) (x0 : Nat) (x1 : Nat) (x2 : Int32) {M M' : fm_M} (h : f_Machine_raise x0 x1 x2 M = some M') : kMet l y_Machine_raise b_Machine_raise 6 none rm_Machine_raise G M [.ref (G.2.2 + x0), .ref (G.2.2 + x1), .int x2] none M' := by
  refine r_met (by decide) rfl (Nat.le_of_ble_eq_true rfl) (fun p e s m args below meth c C0 hP ls hl => ?_)
  have hx := C0.1
  have hb := C0.2.1
  have hl : lv_has ls 6 [(0, .ref (G.2.2 + x0)), (1, .ref (G.2.2 + x1)), (2, .int x2)] := hl
  have hS : va_S (fm_A G.2.2) s.heap s.heap [] := va_S.rf
  unfold f_Machine_raise at h
  refine lv_aload_n hx hb d_Machine_raise_0 rfl (lv_at hl 1 rfl) ?_
  obtain ⟨x126, e127, h⟩ := ob h
  refine k_gi C0 F_Machine_167 ik_7_2 hP e127 d_Machine_raise_1 ?_
  refine lv_istore_n (lv' := [(3, .int x126), (0, .ref (G.2.2 + x0)), (1, .ref (G.2.2 + x1)), (2, .int x2)]) hx hb d_Machine_raise_4 rfl hl (by decide) rfl (fun ls hl => ?_)
  exact w_Machine_raise_5 C0 100000 x0 x1 x2 x126 hP hS (lv_sub hl [1, 2, 3, 0] rfl) h
/-! AllocationProfiler$Machine.make -/
def rm_Machine_make : Room := { frames := 3, cells := 0, slots := 0, locals := 72 }
theorem d_Machine_make_0 : decode b_Machine_make 0 = .ok (.aload_n 0, 1) := by decide +kernel
theorem d_Machine_make_1 : decode b_Machine_make 1 = .ok (.getfield 27, 3) := by decide +kernel
theorem d_Machine_make_4 : decode b_Machine_make 4 = .ok (.lload_n 2, 1) := by decide +kernel
theorem d_Machine_make_5 : decode b_Machine_make 5 = .ok (.invokevirtual 139, 3) := by decide +kernel
theorem d_Machine_make_8 : decode b_Machine_make 8 = .ok (.istore 4, 2) := by decide +kernel
theorem d_Machine_make_10 : decode b_Machine_make 10 = .ok (.iload 4, 2) := by decide +kernel
theorem d_Machine_make_12 : decode b_Machine_make 12 = .ok (.iconst (-1), 1) := by decide +kernel
theorem d_Machine_make_13 : decode b_Machine_make 13 = .ok (.if_icmp .ne 10, 3) := by decide +kernel
theorem d_Machine_make_16 : decode b_Machine_make 16 = .ok (.aload_n 0, 1) := by decide +kernel
theorem d_Machine_make_17 : decode b_Machine_make 17 = .ok (.aload_n 1, 1) := by decide +kernel
theorem d_Machine_make_18 : decode b_Machine_make 18 = .ok (.iconst (-1), 1) := by decide +kernel
theorem d_Machine_make_19 : decode b_Machine_make 19 = .ok (.invokevirtual 125, 3) := by decide +kernel
theorem d_Machine_make_22 : decode b_Machine_make 22 = .ok (.return_, 1) := by decide +kernel
theorem d_Machine_make_23 : decode b_Machine_make 23 = .ok (.aload_n 1, 1) := by decide +kernel
theorem d_Machine_make_24 : decode b_Machine_make 24 = .ok (.invokevirtual 78, 3) := by decide +kernel
theorem d_Machine_make_27 : decode b_Machine_make 27 = .ok (.astore 5, 2) := by decide +kernel
theorem d_Machine_make_29 : decode b_Machine_make 29 = .ok (.aload_n 0, 1) := by decide +kernel
theorem d_Machine_make_30 : decode b_Machine_make 30 = .ok (.aload 5, 2) := by decide +kernel
theorem d_Machine_make_32 : decode b_Machine_make 32 = .ok (.invokevirtual 82, 3) := by decide +kernel
theorem d_Machine_make_35 : decode b_Machine_make 35 = .ok (.astore 6, 2) := by decide +kernel
theorem d_Machine_make_37 : decode b_Machine_make 37 = .ok (.aload 5, 2) := by decide +kernel
theorem d_Machine_make_39 : decode b_Machine_make 39 = .ok (.iload 4, 2) := by decide +kernel
theorem d_Machine_make_41 : decode b_Machine_make 41 = .ok (.invokevirtual 142, 3) := by decide +kernel
theorem d_Machine_make_44 : decode b_Machine_make 44 = .ok (.aload 5, 2) := by decide +kernel
theorem d_Machine_make_46 : decode b_Machine_make 46 = .ok (.dup, 1) := by decide +kernel
theorem d_Machine_make_47 : decode b_Machine_make 47 = .ok (.getfield 86, 3) := by decide +kernel
theorem d_Machine_make_50 : decode b_Machine_make 50 = .ok (.iconst 1, 1) := by decide +kernel
theorem d_Machine_make_51 : decode b_Machine_make 51 = .ok (.iadd, 1) := by decide +kernel
theorem d_Machine_make_52 : decode b_Machine_make 52 = .ok (.putfield 86, 3) := by decide +kernel
theorem d_Machine_make_55 : decode b_Machine_make 55 = .ok (.aload 6, 2) := by decide +kernel
theorem d_Machine_make_57 : decode b_Machine_make 57 = .ok (.aload 5, 2) := by decide +kernel
theorem d_Machine_make_59 : decode b_Machine_make 59 = .ok (.getfield 86, 3) := by decide +kernel
theorem d_Machine_make_62 : decode b_Machine_make 62 = .ok (.invokevirtual 89, 3) := by decide +kernel
theorem d_Machine_make_65 : decode b_Machine_make 65 = .ok (.bipush 16, 2) := by decide +kernel
theorem d_Machine_make_67 : decode b_Machine_make 67 = .ok (.if_icmp .ne 41, 3) := by decide +kernel
theorem d_Machine_make_70 : decode b_Machine_make 70 = .ok (.aload_n 0, 1) := by decide +kernel
theorem d_Machine_make_71 : decode b_Machine_make 71 = .ok (.getfield 34, 3) := by decide +kernel
theorem d_Machine_make_74 : decode b_Machine_make 74 = .ok (.aload 6, 2) := by decide +kernel
theorem d_Machine_make_76 : decode b_Machine_make 76 = .ok (.aload 5, 2) := by decide +kernel
theorem d_Machine_make_78 : decode b_Machine_make 78 = .ok (.getfield 86, 3) := by decide +kernel
theorem d_Machine_make_81 : decode b_Machine_make 81 = .ok (.invokevirtual 95, 3) := by decide +kernel
theorem d_Machine_make_84 : decode b_Machine_make 84 = .ok (.aload_n 1, 1) := by decide +kernel
theorem d_Machine_make_85 : decode b_Machine_make 85 = .ok (.getfield 145, 3) := by decide +kernel
theorem d_Machine_make_88 : decode b_Machine_make 88 = .ok (.lload_n 2, 1) := by decide +kernel
theorem d_Machine_make_89 : decode b_Machine_make 89 = .ok (.l2i, 1) := by decide +kernel
theorem d_Machine_make_90 : decode b_Machine_make 90 = .ok (.aload_n 1, 1) := by decide +kernel
theorem d_Machine_make_91 : decode b_Machine_make 91 = .ok (.invokevirtual 148, 3) := by decide +kernel
theorem d_Machine_make_94 : decode b_Machine_make 94 = .ok (.invokevirtual 151, 3) := by decide +kernel
theorem d_Machine_make_97 : decode b_Machine_make 97 = .ok (.aload 5, 2) := by decide +kernel
theorem d_Machine_make_99 : decode b_Machine_make 99 = .ok (.dup, 1) := by decide +kernel
theorem d_Machine_make_100 : decode b_Machine_make 100 = .ok (.getfield 86, 3) := by decide +kernel
theorem d_Machine_make_103 : decode b_Machine_make 103 = .ok (.iconst 1, 1) := by decide +kernel
theorem d_Machine_make_104 : decode b_Machine_make 104 = .ok (.iadd, 1) := by decide +kernel
theorem d_Machine_make_105 : decode b_Machine_make 105 = .ok (.putfield 86, 3) := by decide +kernel
theorem d_Machine_make_108 : decode b_Machine_make 108 = .ok (.return_, 1) := by decide +kernel
def f_Machine_make (x0 : Nat) (x1 : Nat) (x2 : Int64) (M : fm_M) : Option fm_M :=
  (gr x0 5 2).bind fun q101 =>
  (ck q101 3).bind fun _ =>
  bd (f_Heap_make q101 x2 M) fun x106 M104 =>
  if x106 = (-1) then
    (ck x0 5).bind fun _ =>
    (f_Machine_raise x0 x1 (-1) M104).bind fun M152 =>
    some M152
  else
    (ck x1 7).bind fun _ =>
    bd (f_Strand_top x1 M104) fun q111 M109 =>
    (ck x0 5).bind fun _ =>
    bd (f_Machine_codeOf x0 q111 M109) fun q115 M113 =>
    (ck q111 2).bind fun _ =>
    (f_Frame_push q111 x106 M113).bind fun M117 =>
    (gi q111 2 3 M117).bind fun x119 =>
    (pi q111 2 3 (x119 + 1) M117).bind fun M121 =>
    (gi q111 2 3 M121).bind fun x123 =>
    (ck q115 1).bind fun _ =>
    bd (f_Code_operationAt q115 x123 M121) fun x128 M126 =>
    if x128 = 16 then
      (gr x0 5 3).bind fun q130 =>
      (gi q111 2 3 M126).bind fun x132 =>
      (ck q115 1).bind fun _ =>
      bd (f_Code_argumentAt q115 x132 M126) fun x137 M135 =>
      (gi x1 7 1 M135).bind fun x138 =>
      (ck x1 7).bind fun _ =>
      bd (f_Strand_stackNumber x1 M135) fun x143 M141 =>
      (ck q130 4).bind fun _ =>
      (f_Ledger_report q130 x137 x138 x2.toInt32 x143 M141).bind fun M145 =>
      (gi q111 2 3 M145).bind fun x147 =>
      (pi q111 2 3 (x147 + 1) M145).bind fun M149 =>
      some M149
    else
      some M126
set_option maxHeartbeats 4000000 in
set_option maxRecDepth 100000 in
theorem c_Machine_make (l : Launch) (G : fm_G) (x0 : Nat) (x1 : Nat) (x2 : Int64) {M M' : fm_M} (h : f_Machine_make x0 x1 x2 M = some M') : kMet l y_Machine_make b_Machine_make 7 none rm_Machine_make G M [.ref (G.2.2 + x0), .ref (G.2.2 + x1), .long x2] none M' := by
  refine r_met (by decide) rfl (Nat.le_of_ble_eq_true rfl) (fun p e s m args below meth c C0 hP ls hl => ?_)
  have hx := C0.1
  have hb := C0.2.1
  have hl : lv_has ls 7 [(0, .ref (G.2.2 + x0)), (1, .ref (G.2.2 + x1)), (2, .long x2)] := hl
  have hS : va_S (fm_A G.2.2) s.heap s.heap [] := va_S.rf
  unfold f_Machine_make at h
  refine lv_aload_n hx hb d_Machine_make_0 rfl (lv_at hl 0 rfl) ?_
  obtain ⟨q101, e102, h⟩ := ob h
  refine k_gr C0 F_Machine_27 hP e102 d_Machine_make_1 ?_
  refine lv_lload_n hx hb d_Machine_make_4 rfl (lv_at hl 2 rfl) ?_
  obtain ⟨_, e103, h⟩ := ob h
  obtain ⟨x106, M104, e105, h⟩ := ob2 h
  refine k_cV C0 L_Machine_139 (As := [.long x2]) (c_Heap_make l G q101 x2 e105) ⟨rfl, rfl⟩ ⟨Nat.le_of_ble_eq_true rfl, Nat.le_of_ble_eq_true rfl⟩ hP hS (ck_of e103) ly_Heap rfl hl.1 rfl (Nat.le_of_ble_eq_true rfl) d_Machine_make_5 ⟨Nat.zero_le _, Nat.zero_le _⟩ (fun H locs hP hS => ?_)
  refine lv_istore (lv' := [(4, .int x106), (0, .ref (G.2.2 + x0)), (1, .ref (G.2.2 + x1)), (2, .long x2)]) hx hb d_Machine_make_8 hl (by decide) rfl (fun ls hl => ?_)
  refine lv_iload hx hb d_Machine_make_10 (lv_at hl 0 rfl) ?_
  refine lv_iconst (v := (-1)) hx hb d_Machine_make_12 ic_m1 ?_
  refine lv_icmp_ne (tgt := 23) hx hb d_Machine_make_13 (by decide) (fun c107 => ?_) (fun c107 => ?_)
  · rw [if_neg c107] at h
    refine lv_aload_n hx hb d_Machine_make_23 rfl (lv_at hl 2 rfl) ?_
    obtain ⟨_, e108, h⟩ := ob h
    obtain ⟨q111, M109, e110, h⟩ := ob2 h
    refine k_cV C0 L_Machine_78 (As := []) (c_Strand_top l G x1 e110) ⟨rfl, rfl⟩ ⟨Nat.le_of_ble_eq_true rfl, Nat.le_of_ble_eq_true rfl⟩ hP hS (ck_of e108) ly_Strand rfl hl.1 rfl (Nat.le_of_ble_eq_true rfl) d_Machine_make_24 ⟨Nat.zero_le _, Nat.zero_le _⟩ (fun H locs hP hS => ?_)
    refine lv_astore (lv' := [(5, .ref (G.2.2 + q111)), (4, .int x106), (0, .ref (G.2.2 + x0)), (1, .ref (G.2.2 + x1)), (2, .long x2)]) hx hb d_Machine_make_27 hl (by decide) rfl (fun ls hl => ?_)
    refine lv_aload_n hx hb d_Machine_make_29 rfl (lv_at hl 2 rfl) ?_
    refine lv_aload hx hb d_Machine_make_30 (lv_at hl 0 rfl) ?_
    obtain ⟨_, e112, h⟩ := ob h
    obtain ⟨q115, M113, e114, h⟩ := ob2 h
    refine k_cV C0 L_Machine_82 (As := [.ref (G.2.2 + q111)]) (c_Machine_codeOf l G x0 q111 e114) ⟨rfl, rfl⟩ ⟨Nat.le_of_ble_eq_true rfl, Nat.le_of_ble_eq_true rfl⟩ hP hS (ck_of e112) ly_Machine rfl hl.1 rfl (Nat.le_of_ble_eq_true rfl) d_Machine_make_32 ⟨Nat.zero_le _, Nat.zero_le _⟩ (fun H locs hP hS => ?_)
    refine lv_astore (lv' := [(6, .ref (G.2.2 + q115)), (5, .ref (G.2.2 + q111)), (4, .int x106), (0, .ref (G.2.2 + x0)), (1, .ref (G.2.2 + x1)), (2, .long x2)]) hx hb d_Machine_make_35 hl (by decide) rfl (fun ls hl => ?_)
    refine lv_aload hx hb d_Machine_make_37 (lv_at hl 1 rfl) ?_
    refine lv_iload hx hb d_Machine_make_39 (lv_at hl 2 rfl) ?_
    obtain ⟨_, e116, h⟩ := ob h
    obtain ⟨M117, e118, h⟩ := ob h
    refine k_cVv C0 L_Machine_142 (As := [.int x106]) (c_Frame_push l G q111 x106 e118) ⟨rfl, rfl⟩ ⟨Nat.le_of_ble_eq_true rfl, Nat.le_of_ble_eq_true rfl⟩ hP hS (ck_of e116) ly_Frame rfl hl.1 rfl (Nat.le_of_ble_eq_true rfl) d_Machine_make_41 ⟨Nat.zero_le _, Nat.zero_le _⟩ (fun H locs hP hS => ?_)
    refine lv_aload hx hb d_Machine_make_44 (lv_at hl 1 rfl) ?_
    refine lv_dup hx hb d_Machine_make_46 rfl ?_
    obtain ⟨x119, e120, h⟩ := ob h
    refine k_gi C0 F_Machine_86 ik_2_3 hP e120 d_Machine_make_47 ?_
    refine lv_iconst (v := 1) hx hb d_Machine_make_50 ic_1 ?_
    refine lv_iadd hx hb d_Machine_make_51 ?_
    obtain ⟨M121, e122, h⟩ := ob h
    refine k_pi C0 F_Machine_86p ik_2_3 hP hS e122 d_Machine_make_52 (fun H locs hP hS => ?_)
    refine lv_aload hx hb d_Machine_make_55 (lv_at hl 0 rfl) ?_
    refine lv_aload hx hb d_Machine_make_57 (lv_at hl 1 rfl) ?_
    obtain ⟨x123, e124, h⟩ := ob h
    refine k_gi C0 F_Machine_86 ik_2_3 hP e124 d_Machine_make_59 ?_
    obtain ⟨_, e125, h⟩ := ob h
    obtain ⟨x128, M126, e127, h⟩ := ob2 h
    refine k_cV C0 L_Machine_89 (As := [.int x123]) (c_Code_operationAt l G q115 x123 e127) ⟨rfl, rfl⟩ ⟨Nat.le_of_ble_eq_true rfl, Nat.le_of_ble_eq_true rfl⟩ hP hS (ck_of e125) ly_Code rfl hl.1 rfl (Nat.le_of_ble_eq_true rfl) d_Machine_make_62 ⟨Nat.zero_le _, Nat.zero_le _⟩ (fun H locs hP hS => ?_)
    refine lv_bipush (v := 16) hx hb d_Machine_make_65 bp_16 ?_
    refine lv_icmp_ne (tgt := 108) hx hb d_Machine_make_67 (by decide) (fun c129 => ?_) (fun c129 => ?_)
    · rw [if_neg c129] at h
      cases h
      exact r_vret C0 hP hS d_Machine_make_108
    · rw [if_pos c129] at h
      refine lv_aload_n hx hb d_Machine_make_70 rfl (lv_at hl 3 rfl) ?_
      obtain ⟨q130, e131, h⟩ := ob h
      refine k_gr C0 F_Machine_34 hP e131 d_Machine_make_71 ?_
      refine lv_aload hx hb d_Machine_make_74 (lv_at hl 0 rfl) ?_
      refine lv_aload hx hb d_Machine_make_76 (lv_at hl 1 rfl) ?_
      obtain ⟨x132, e133, h⟩ := ob h
      refine k_gi C0 F_Machine_86 ik_2_3 hP e133 d_Machine_make_78 ?_
      obtain ⟨_, e134, h⟩ := ob h
      obtain ⟨x137, M135, e136, h⟩ := ob2 h
      refine k_cV C0 L_Machine_95 (As := [.int x132]) (c_Code_argumentAt l G q115 x132 e136) ⟨rfl, rfl⟩ ⟨Nat.le_of_ble_eq_true rfl, Nat.le_of_ble_eq_true rfl⟩ hP hS (ck_of e134) ly_Code rfl hl.1 rfl (Nat.le_of_ble_eq_true rfl) d_Machine_make_81 ⟨Nat.zero_le _, Nat.zero_le _⟩ (fun H locs hP hS => ?_)
      refine lv_aload_n hx hb d_Machine_make_84 rfl (lv_at hl 4 rfl) ?_
      obtain ⟨x138, e139, h⟩ := ob h
      refine k_gi C0 F_Machine_145 ik_7_1 hP e139 d_Machine_make_85 ?_
      refine lv_lload_n hx hb d_Machine_make_88 rfl (lv_at hl 5 rfl) ?_
      refine lv_l2i hx hb d_Machine_make_89 rfl ?_
      refine lv_aload_n hx hb d_Machine_make_90 rfl (lv_at hl 4 rfl) ?_
      obtain ⟨_, e140, h⟩ := ob h
      obtain ⟨x143, M141, e142, h⟩ := ob2 h
      refine k_cV C0 L_Machine_148 (As := []) (c_Strand_stackNumber l G x1 e142) ⟨rfl, rfl⟩ ⟨Nat.le_of_ble_eq_true rfl, Nat.le_of_ble_eq_true rfl⟩ hP hS (ck_of e140) ly_Strand rfl hl.1 rfl (Nat.le_of_ble_eq_true rfl) d_Machine_make_91 ⟨Nat.zero_le _, Nat.zero_le _⟩ (fun H locs hP hS => ?_)
      obtain ⟨_, e144, h⟩ := ob h
      obtain ⟨M145, e146, h⟩ := ob h
      refine k_cVv C0 L_Machine_151 (As := [.int x137, .int x138, .int x2.toInt32, .int x143]) (c_Ledger_report l G q130 x137 x138 x2.toInt32 x143 e146) ⟨rfl, rfl⟩ ⟨Nat.le_of_ble_eq_true rfl, Nat.le_of_ble_eq_true rfl⟩ hP hS (ck_of e144) ly_Ledger rfl hl.1 rfl (Nat.le_of_ble_eq_true rfl) d_Machine_make_94 ⟨Nat.zero_le _, Nat.zero_le _⟩ (fun H locs hP hS => ?_)
      refine lv_aload hx hb d_Machine_make_97 (lv_at hl 1 rfl) ?_
      refine lv_dup hx hb d_Machine_make_99 rfl ?_
      obtain ⟨x147, e148, h⟩ := ob h
      refine k_gi C0 F_Machine_86 ik_2_3 hP e148 d_Machine_make_100 ?_
      refine lv_iconst (v := 1) hx hb d_Machine_make_103 ic_1 ?_
      refine lv_iadd hx hb d_Machine_make_104 ?_
      obtain ⟨M149, e150, h⟩ := ob h
      refine k_pi C0 F_Machine_86p ik_2_3 hP hS e150 d_Machine_make_105 (fun H locs hP hS => ?_)
      cases h
      exact r_vret C0 hP hS d_Machine_make_108
  · rw [if_pos c107] at h
    refine lv_aload_n hx hb d_Machine_make_16 rfl (lv_at hl 1 rfl) ?_
    refine lv_aload_n hx hb d_Machine_make_17 rfl (lv_at hl 2 rfl) ?_
    refine lv_iconst (v := (-1)) hx hb d_Machine_make_18 ic_m1 ?_
    obtain ⟨_, e151, h⟩ := ob h
    obtain ⟨M152, e153, h⟩ := ob h
    refine k_cVv C0 L_Machine_125 (As := [.ref (G.2.2 + x1), .int (-1)]) (c_Machine_raise l G x0 x1 (-1) e153) ⟨rfl, rfl⟩ ⟨Nat.le_of_ble_eq_true rfl, Nat.le_of_ble_eq_true rfl⟩ hP hS (ck_of e151) ly_Machine rfl hl.1 rfl (Nat.le_of_ble_eq_true rfl) d_Machine_make_19 ⟨Nat.zero_le _, Nat.zero_le _⟩ (fun H locs hP hS => ?_)
    cases h
    exact r_vret C0 hP hS d_Machine_make_22
/-! AllocationProfiler$Machine.arraySize -/
def rm_Machine_arraySize : Room := { frames := 1, cells := 0, slots := 0, locals := 22 }
theorem d_Machine_arraySize_0 : decode b_Machine_arraySize 0 = .ok (.iload_n 0, 1) := by decide +kernel
theorem d_Machine_arraySize_1 : decode b_Machine_arraySize 1 = .ok (.ifCond .ge 9, 3) := by decide +kernel
theorem d_Machine_arraySize_4 : decode b_Machine_arraySize 4 = .ok (.ldc2_w 131, 3) := by decide +kernel
theorem d_Machine_arraySize_7 : decode b_Machine_arraySize 7 = .ok (.goto 17, 3) := by decide +kernel
theorem d_Machine_arraySize_10 : decode b_Machine_arraySize 10 = .ok (.ldc2_w 133, 3) := by decide +kernel
theorem d_Machine_arraySize_13 : decode b_Machine_arraySize 13 = .ok (.iload_n 0, 1) := by decide +kernel
theorem d_Machine_arraySize_14 : decode b_Machine_arraySize 14 = .ok (.i2l, 1) := by decide +kernel
theorem d_Machine_arraySize_15 : decode b_Machine_arraySize 15 = .ok (.iload_n 1, 1) := by decide +kernel
theorem d_Machine_arraySize_16 : decode b_Machine_arraySize 16 = .ok (.i2l, 1) := by decide +kernel
theorem d_Machine_arraySize_17 : decode b_Machine_arraySize 17 = .ok (.lmul, 1) := by decide +kernel
theorem d_Machine_arraySize_18 : decode b_Machine_arraySize 18 = .ok (.ladd, 1) := by decide +kernel
theorem d_Machine_arraySize_19 : decode b_Machine_arraySize 19 = .ok (.bipush 8, 2) := by decide +kernel
theorem d_Machine_arraySize_21 : decode b_Machine_arraySize 21 = .ok (.invokestatic 135, 3) := by decide +kernel
theorem d_Machine_arraySize_24 : decode b_Machine_arraySize 24 = .ok (.lreturn, 1) := by decide +kernel
def f_Machine_arraySize (x0 : Int32) (x1 : Int32) (M : fm_M) : Option (Int64 × fm_M) :=
  if 0 ≤ x0 then
    bd (f_AP_nextMultiple (16 + (x0.toInt64 * x1.toInt64)) 8 M) fun x104 M102 =>
    some (x104, M102)
  else
    some ((-1), M)
set_option maxHeartbeats 4000000 in
set_option maxRecDepth 100000 in
theorem c_Machine_arraySize (l : Launch) (G : fm_G) (x0 : Int32) (x1 : Int32) {v : Int64} {M M' : fm_M} (h : f_Machine_arraySize x0 x1 M = some (v, M')) : kMet l y_Machine_arraySize b_Machine_arraySize 2 (some .long) rm_Machine_arraySize G M [.int x0, .int x1] (some (.long v)) M' := by
  refine r_met (by decide) rfl (Nat.le_of_ble_eq_true rfl) (fun p e s m args below meth c C0 hP ls hl => ?_)
  have hx := C0.1
  have hb := C0.2.1
  have hown := C0.2.2.2.2.1
  have hts := C0.2.2.2.2.2.1
  have hl : lv_has ls 2 [(0, .int x0), (1, .int x1)] := hl
  have hS : va_S (fm_A G.2.2) s.heap s.heap [] := va_S.rf
  unfold f_Machine_arraySize at h
  refine lv_iload_n hx hb d_Machine_arraySize_0 rfl (lv_at hl 0 rfl) ?_
  refine lv_if_ge (tgt := 10) hx hb d_Machine_arraySize_1 (by decide) (fun c101 => ?_) (fun c101 => ?_)
  · rw [if_pos c101] at h
    refine lv_ldc2 (v := 16) hx hb hown (hts _ (List.mem_cons_of_mem _ (gT_in 825 (by decide +kernel) rfl))) d_Machine_arraySize_10 ?_
    refine lv_iload_n hx hb d_Machine_arraySize_13 rfl (lv_at hl 0 rfl) ?_
    refine lv_i2l hx hb d_Machine_arraySize_14 rfl ?_
    refine lv_iload_n hx hb d_Machine_arraySize_15 rfl (lv_at hl 1 rfl) ?_
    refine lv_i2l hx hb d_Machine_arraySize_16 rfl ?_
    refine lv_lmul hx hb d_Machine_arraySize_17 ?_
    refine lv_ladd hx hb d_Machine_arraySize_18 ?_
    refine lv_bipush (v := 8) hx hb d_Machine_arraySize_19 bp_8 ?_
    obtain ⟨x104, M102, e103, h⟩ := ob2 h
    refine k_cSN C0 L_Machine_135 (As := [.long (16 + (x0.toInt64 * x1.toInt64)), .int 8]) (c_AP_nextMultiple l G (16 + (x0.toInt64 * x1.toInt64)) 8 e103) ⟨rfl, rfl⟩ ⟨Nat.le_of_ble_eq_true rfl, Nat.le_of_ble_eq_true rfl⟩ hP hS rfl hl.1 rfl (Nat.le_of_ble_eq_true rfl) d_Machine_arraySize_21 ⟨Nat.zero_le _, Nat.zero_le _⟩ (fun H locs hP hS => ?_)
    cases h
    exact r_lret C0 hP hS d_Machine_arraySize_24
  · rw [if_neg c101] at h
    refine lv_ldc2 (v := (-1)) hx hb hown (hts _ (List.mem_cons_of_mem _ (gT_in 824 (by decide +kernel) rfl))) d_Machine_arraySize_4 ?_
    refine lv_goto (tgt := 24) hx hb d_Machine_arraySize_7 (by decide) ?_
    cases h
    exact r_lret C0 hP hS d_Machine_arraySize_24
/-! AllocationProfiler$Machine.callMethod -/
def rm_Machine_callMethod : Room := { frames := 3, cells := 0, slots := 0, locals := 69 }
theorem d_Machine_callMethod_0 : decode b_Machine_callMethod 0 = .ok (.aload_n 1, 1) := by decide +kernel
theorem d_Machine_callMethod_1 : decode b_Machine_callMethod 1 = .ok (.invokevirtual 155, 3) := by decide +kernel
theorem d_Machine_callMethod_4 : decode b_Machine_callMethod 4 = .ok (.ifCond .eq 13, 3) := by decide +kernel
theorem d_Machine_callMethod_7 : decode b_Machine_callMethod 7 = .ok (.aload_n 0, 1) := by decide +kernel
theorem d_Machine_callMethod_8 : decode b_Machine_callMethod 8 = .ok (.aload_n 1, 1) := by decide +kernel
theorem d_Machine_callMethod_9 : decode b_Machine_callMethod 9 = .ok (.bipush (-2), 2) := by decide +kernel
theorem d_Machine_callMethod_11 : decode b_Machine_callMethod 11 = .ok (.invokevirtual 125, 3) := by decide +kernel
theorem d_Machine_callMethod_14 : decode b_Machine_callMethod 14 = .ok (.goto 9, 3) := by decide +kernel
theorem d_Machine_callMethod_17 : decode b_Machine_callMethod 17 = .ok (.aload_n 1, 1) := by decide +kernel
theorem d_Machine_callMethod_18 : decode b_Machine_callMethod 18 = .ok (.iload_n 2, 1) := by decide +kernel
theorem d_Machine_callMethod_19 : decode b_Machine_callMethod 19 = .ok (.iload_n 3, 1) := by decide +kernel
theorem d_Machine_callMethod_20 : decode b_Machine_callMethod 20 = .ok (.invokevirtual 158, 3) := by decide +kernel
theorem d_Machine_callMethod_23 : decode b_Machine_callMethod 23 = .ok (.return_, 1) := by decide +kernel
def f_Machine_callMethod (x0 : Nat) (x1 : Nat) (x2 : Int32) (x3 : Int32) (M : fm_M) : Option fm_M :=
  (ck x1 7).bind fun _ =>
  bd (f_Strand_isDeep x1 M) fun x104 M102 =>
  if x104 = 0 then
    (ck x1 7).bind fun _ =>
    (f_Strand_enter x1 x2 x3 M102).bind fun M107 =>
    some M107
  else
    (ck x0 5).bind fun _ =>
    (f_Machine_raise x0 x1 (-2) M102).bind fun M110 =>
    some M110
set_option maxHeartbeats 4000000 in
set_option maxRecDepth 100000 in
theorem c_Machine_callMethod (l : Launch) (G : fm_G) (x0 : Nat) (x1 : Nat) (x2 : Int32) (x3 : Int32) {M M' : fm_M} (h : f_Machine_callMethod x0 x1 x2 x3 M = some M') : kMet l y_Machine_callMethod b_Machine_callMethod 4 none rm_Machine_callMethod G M [.ref (G.2.2 + x0), .ref (G.2.2 + x1), .int x2, .int x3] none M' := by
  refine r_met (by decide) rfl (Nat.le_of_ble_eq_true rfl) (fun p e s m args below meth c C0 hP ls hl => ?_)
  have hx := C0.1
  have hb := C0.2.1
  have hl : lv_has ls 4 [(0, .ref (G.2.2 + x0)), (1, .ref (G.2.2 + x1)), (2, .int x2), (3, .int x3)] := hl
  have hS : va_S (fm_A G.2.2) s.heap s.heap [] := va_S.rf
  unfold f_Machine_callMethod at h
  refine lv_aload_n hx hb d_Machine_callMethod_0 rfl (lv_at hl 1 rfl) ?_
  obtain ⟨_, e101, h⟩ := ob h
  obtain ⟨x104, M102, e103, h⟩ := ob2 h
  refine k_cV C0 L_Machine_155 (As := []) (c_Strand_isDeep l G x1 e103) ⟨rfl, rfl⟩ ⟨Nat.le_of_ble_eq_true rfl, Nat.le_of_ble_eq_true rfl⟩ hP hS (ck_of e101) ly_Strand rfl hl.1 rfl (Nat.le_of_ble_eq_true rfl) d_Machine_callMethod_1 ⟨Nat.zero_le _, Nat.zero_le _⟩ (fun H locs hP hS => ?_)
  refine lv_if_eq (tgt := 17) hx hb d_Machine_callMethod_4 (by decide) (fun c105 => ?_) (fun c105 => ?_)
  · rw [if_pos c105] at h
    refine lv_aload_n hx hb d_Machine_callMethod_17 rfl (lv_at hl 1 rfl) ?_
    refine lv_iload_n hx hb d_Machine_callMethod_18 rfl (lv_at hl 2 rfl) ?_
    refine lv_iload_n hx hb d_Machine_callMethod_19 rfl (lv_at hl 3 rfl) ?_
    obtain ⟨_, e106, h⟩ := ob h
    obtain ⟨M107, e108, h⟩ := ob h
    refine k_cVv C0 L_Machine_158 (As := [.int x2, .int x3]) (c_Strand_enter l G x1 x2 x3 e108) ⟨rfl, rfl⟩ ⟨Nat.le_of_ble_eq_true rfl, Nat.le_of_ble_eq_true rfl⟩ hP hS (ck_of e106) ly_Strand rfl hl.1 rfl (Nat.le_of_ble_eq_true rfl) d_Machine_callMethod_20 ⟨Nat.zero_le _, Nat.zero_le _⟩ (fun H locs hP hS => ?_)
    cases h
    exact r_vret C0 hP hS d_Machine_callMethod_23
  · rw [if_neg c105] at h
    refine lv_aload_n hx hb d_Machine_callMethod_7 rfl (lv_at hl 0 rfl) ?_
    refine lv_aload_n hx hb d_Machine_callMethod_8 rfl (lv_at hl 1 rfl) ?_
    refine lv_bipush (v := (-2)) hx hb d_Machine_callMethod_9 bp_m2 ?_
    obtain ⟨_, e109, h⟩ := ob h
    obtain ⟨M110, e111, h⟩ := ob h
    refine k_cVv C0 L_Machine_125 (As := [.ref (G.2.2 + x1), .int (-2)]) (c_Machine_raise l G x0 x1 (-2) e111) ⟨rfl, rfl⟩ ⟨Nat.le_of_ble_eq_true rfl, Nat.le_of_ble_eq_true rfl⟩ hP hS (ck_of e109) ly_Machine rfl hl.1 rfl (Nat.le_of_ble_eq_true rfl) d_Machine_callMethod_11 ⟨Nat.zero_le _, Nat.zero_le _⟩ (fun H locs hP hS => ?_)
    refine lv_goto (tgt := 23) hx hb d_Machine_callMethod_14 (by decide) ?_
    cases h
    exact r_vret C0 hP hS d_Machine_callMethod_23
/-! AllocationProfiler$Machine.giveBack -/
def rm_Machine_giveBack : Room := { frames := 1, cells := 0, slots := 0, locals := 22 }
theorem d_Machine_giveBack_0 : decode b_Machine_giveBack 0 = .ok (.aload_n 1, 1) := by decide +kernel
theorem d_Machine_giveBack_1 : decode b_Machine_giveBack 1 = .ok (.invokevirtual 161, 3) := by decide +kernel
theorem d_Machine_giveBack_4 : decode b_Machine_giveBack 4 = .ok (.aload_n 1, 1) := by decide +kernel
theorem d_Machine_giveBack_5 : decode b_Machine_giveBack 5 = .ok (.invokevirtual 55, 3) := by decide +kernel
theorem d_Machine_giveBack_8 : decode b_Machine_giveBack 8 = .ok (.ifCond .eq 27, 3) := by decide +kernel
theorem d_Machine_giveBack_11 : decode b_Machine_giveBack 11 = .ok (.aload_n 1, 1) := by decide +kernel
theorem d_Machine_giveBack_12 : decode b_Machine_giveBack 12 = .ok (.invokevirtual 78, 3) := by decide +kernel
theorem d_Machine_giveBack_15 : decode b_Machine_giveBack 15 = .ok (.iload_n 2, 1) := by decide +kernel
theorem d_Machine_giveBack_16 : decode b_Machine_giveBack 16 = .ok (.invokevirtual 142, 3) := by decide +kernel
theorem d_Machine_giveBack_19 : decode b_Machine_giveBack 19 = .ok (.aload_n 1, 1) := by decide +kernel
theorem d_Machine_giveBack_20 : decode b_Machine_giveBack 20 = .ok (.invokevirtual 78, 3) := by decide +kernel
theorem d_Machine_giveBack_23 : decode b_Machine_giveBack 23 = .ok (.dup, 1) := by decide +kernel
theorem d_Machine_giveBack_24 : decode b_Machine_giveBack 24 = .ok (.getfield 86, 3) := by decide +kernel
theorem d_Machine_giveBack_27 : decode b_Machine_giveBack 27 = .ok (.iconst 1, 1) := by decide +kernel
theorem d_Machine_giveBack_28 : decode b_Machine_giveBack 28 = .ok (.iadd, 1) := by decide +kernel
theorem d_Machine_giveBack_29 : decode b_Machine_giveBack 29 = .ok (.putfield 86, 3) := by decide +kernel
theorem d_Machine_giveBack_32 : decode b_Machine_giveBack 32 = .ok (.goto 9, 3) := by decide +kernel
theorem d_Machine_giveBack_35 : decode b_Machine_giveBack 35 = .ok (.aload_n 1, 1) := by decide +kernel
theorem d_Machine_giveBack_36 : decode b_Machine_giveBack 36 = .ok (.iconst 2, 1) := by decide +kernel
theorem d_Machine_giveBack_37 : decode b_Machine_giveBack 37 = .ok (.iload_n 2, 1) := by decide +kernel
theorem d_Machine_giveBack_38 : decode b_Machine_giveBack 38 = .ok (.invokevirtual 164, 3) := by decide +kernel
theorem d_Machine_giveBack_41 : decode b_Machine_giveBack 41 = .ok (.return_, 1) := by decide +kernel
def f_Machine_giveBack (x0 : Nat) (x1 : Nat) (x2 : Int32) (M : fm_M) : Option fm_M :=
  (ck x1 7).bind fun _ =>
  (f_Strand_leave x1 M).bind fun M102 =>
  (ck x1 7).bind fun _ =>
  bd (f_Strand_isRunning x1 M102) fun x107 M105 =>
  if x107 = 0 then
    (ck x1 7).bind fun _ =>
    (f_Strand_end x1 2 x2 M105).bind fun M110 =>
    some M110
  else
    (ck x1 7).bind fun _ =>
    bd (f_Strand_top x1 M105) fun q115 M113 =>
    (ck q115 2).bind fun _ =>
    (f_Frame_push q115 x2 M113).bind fun M117 =>
    (ck x1 7).bind fun _ =>
    bd (f_Strand_top x1 M117) fun q122 M120 =>
    (gi q122 2 3 M120).bind fun x123 =>
    (pi q122 2 3 (x123 + 1) M120).bind fun M125 =>
    some M125
set_option maxHeartbeats 4000000 in
set_option maxRecDepth 100000 in
theorem c_Machine_giveBack (l : Launch) (G : fm_G) (x0 : Nat) (x1 : Nat) (x2 : Int32) {M M' : fm_M} (h : f_Machine_giveBack x0 x1 x2 M = some M') : kMet l y_Machine_giveBack b_Machine_giveBack 3 none rm_Machine_giveBack G M [.ref (G.2.2 + x0), .ref (G.2.2 + x1), .int x2] none M' := by
  refine r_met (by decide) rfl (Nat.le_of_ble_eq_true rfl) (fun p e s m args below meth c C0 hP ls hl => ?_)
  have hx := C0.1
  have hb := C0.2.1
  have hl : lv_has ls 3 [(0, .ref (G.2.2 + x0)), (1, .ref (G.2.2 + x1)), (2, .int x2)] := hl
  have hS : va_S (fm_A G.2.2) s.heap s.heap [] := va_S.rf
  unfold f_Machine_giveBack at h
  refine lv_aload_n hx hb d_Machine_giveBack_0 rfl (lv_at hl 1 rfl) ?_
  obtain ⟨_, e101, h⟩ := ob h
  obtain ⟨M102, e103, h⟩ := ob h
  refine k_cVv C0 L_Machine_161 (As := []) (c_Strand_leave l G x1 e103) ⟨rfl, rfl⟩ ⟨Nat.le_of_ble_eq_true rfl, Nat.le_of_ble_eq_true rfl⟩ hP hS (ck_of e101) ly_Strand rfl hl.1 rfl (Nat.le_of_ble_eq_true rfl) d_Machine_giveBack_1 ⟨Nat.zero_le _, Nat.zero_le _⟩ (fun H locs hP hS => ?_)
  refine lv_aload_n hx hb d_Machine_giveBack_4 rfl (lv_at hl 1 rfl) ?_
  obtain ⟨_, e104, h⟩ := ob h
  obtain ⟨x107, M105, e106, h⟩ := ob2 h
  refine k_cV C0 L_Machine_55 (As := []) (c_Strand_isRunning l G x1 e106) ⟨rfl, rfl⟩ ⟨Nat.le_of_ble_eq_true rfl, Nat.le_of_ble_eq_true rfl⟩ hP hS (ck_of e104) ly_Strand rfl hl.1 rfl (Nat.le_of_ble_eq_true rfl) d_Machine_giveBack_5 ⟨Nat.zero_le _, Nat.zero_le _⟩ (fun H locs hP hS => ?_)
  refine lv_if_eq (tgt := 35) hx hb d_Machine_giveBack_8 (by decide) (fun c108 => ?_) (fun c108 => ?_)
  · rw [if_pos c108] at h
    refine lv_aload_n hx hb d_Machine_giveBack_35 rfl (lv_at hl 1 rfl) ?_
    refine lv_iconst (v := 2) hx hb d_Machine_giveBack_36 ic_2 ?_
    refine lv_iload_n hx hb d_Machine_giveBack_37 rfl (lv_at hl 2 rfl) ?_
    obtain ⟨_, e109, h⟩ := ob h
    obtain ⟨M110, e111, h⟩ := ob h
    refine k_cVv C0 L_Machine_164 (As := [.int 2, .int x2]) (c_Strand_end l G x1 2 x2 e111) ⟨rfl, rfl⟩ ⟨Nat.le_of_ble_eq_true rfl, Nat.le_of_ble_eq_true rfl⟩ hP hS (ck_of e109) ly_Strand rfl hl.1 rfl (Nat.le_of_ble_eq_true rfl) d_Machine_giveBack_38 ⟨Nat.zero_le _, Nat.zero_le _⟩ (fun H locs hP hS => ?_)
    cases h
    exact r_vret C0 hP hS d_Machine_giveBack_41
  · rw [if_neg c108] at h
    refine lv_aload_n hx hb d_Machine_giveBack_11 rfl (lv_at hl 1 rfl) ?_
    obtain ⟨_, e112, h⟩ := ob h
    obtain ⟨q115, M113, e114, h⟩ := ob2 h
    refine k_cV C0 L_Machine_78 (As := []) (c_Strand_top l G x1 e114) ⟨rfl, rfl⟩ ⟨Nat.le_of_ble_eq_true rfl, Nat.le_of_ble_eq_true rfl⟩ hP hS (ck_of e112) ly_Strand rfl hl.1 rfl (Nat.le_of_ble_eq_true rfl) d_Machine_giveBack_12 ⟨Nat.zero_le _, Nat.zero_le _⟩ (fun H locs hP hS => ?_)
    refine lv_iload_n hx hb d_Machine_giveBack_15 rfl (lv_at hl 2 rfl) ?_
    obtain ⟨_, e116, h⟩ := ob h
    obtain ⟨M117, e118, h⟩ := ob h
    refine k_cVv C0 L_Machine_142 (As := [.int x2]) (c_Frame_push l G q115 x2 e118) ⟨rfl, rfl⟩ ⟨Nat.le_of_ble_eq_true rfl, Nat.le_of_ble_eq_true rfl⟩ hP hS (ck_of e116) ly_Frame rfl hl.1 rfl (Nat.le_of_ble_eq_true rfl) d_Machine_giveBack_16 ⟨Nat.zero_le _, Nat.zero_le _⟩ (fun H locs hP hS => ?_)
    refine lv_aload_n hx hb d_Machine_giveBack_19 rfl (lv_at hl 1 rfl) ?_
    obtain ⟨_, e119, h⟩ := ob h
    obtain ⟨q122, M120, e121, h⟩ := ob2 h
    refine k_cV C0 L_Machine_78 (As := []) (c_Strand_top l G x1 e121) ⟨rfl, rfl⟩ ⟨Nat.le_of_ble_eq_true rfl, Nat.le_of_ble_eq_true rfl⟩ hP hS (ck_of e119) ly_Strand rfl hl.1 rfl (Nat.le_of_ble_eq_true rfl) d_Machine_giveBack_20 ⟨Nat.zero_le _, Nat.zero_le _⟩ (fun H locs hP hS => ?_)
    refine lv_dup hx hb d_Machine_giveBack_23 rfl ?_
    obtain ⟨x123, e124, h⟩ := ob h
    refine k_gi C0 F_Machine_86 ik_2_3 hP e124 d_Machine_giveBack_24 ?_
    refine lv_iconst (v := 1) hx hb d_Machine_giveBack_27 ic_1 ?_
    refine lv_iadd hx hb d_Machine_giveBack_28 ?_
    obtain ⟨M125, e126, h⟩ := ob h
    refine k_pi C0 F_Machine_86p ik_2_3 hP hS e126 d_Machine_giveBack_29 (fun H locs hP hS => ?_)
    refine lv_goto (tgt := 41) hx hb d_Machine_giveBack_32 (by decide) ?_
    cases h
    exact r_vret C0 hP hS d_Machine_giveBack_41
/-! AllocationProfiler$Machine.perform -/
def rm_Machine_perform : Room := { frames := 4, cells := 0, slots := 0, locals := 98 }
theorem d_Machine_perform_0 : decode b_Machine_perform 0 = .ok (.aload_n 1, 1) := by decide +kernel
theorem d_Machine_perform_1 : decode b_Machine_perform 1 = .ok (.invokevirtual 78, 3) := by decide +kernel
theorem d_Machine_perform_4 : decode b_Machine_perform 4 = .ok (.astore_n 2, 1) := by decide +kernel
theorem d_Machine_perform_5 : decode b_Machine_perform 5 = .ok (.aload_n 0, 1) := by decide +kernel
theorem d_Machine_perform_6 : decode b_Machine_perform 6 = .ok (.aload_n 2, 1) := by decide +kernel
theorem d_Machine_perform_7 : decode b_Machine_perform 7 = .ok (.invokevirtual 82, 3) := by decide +kernel
theorem d_Machine_perform_10 : decode b_Machine_perform 10 = .ok (.aload_n 2, 1) := by decide +kernel
theorem d_Machine_perform_11 : decode b_Machine_perform 11 = .ok (.getfield 86, 3) := by decide +kernel
theorem d_Machine_perform_14 : decode b_Machine_perform 14 = .ok (.invokevirtual 89, 3) := by decide +kernel
theorem d_Machine_perform_17 : decode b_Machine_perform 17 = .ok (.istore_n 3, 1) := by decide +kernel
theorem d_Machine_perform_18 : decode b_Machine_perform 18 = .ok (.aload_n 0, 1) := by decide +kernel
theorem d_Machine_perform_19 : decode b_Machine_perform 19 = .ok (.aload_n 2, 1) := by decide +kernel
theorem d_Machine_perform_20 : decode b_Machine_perform 20 = .ok (.invokevirtual 82, 3) := by decide +kernel
theorem d_Machine_perform_23 : decode b_Machine_perform 23 = .ok (.aload_n 2, 1) := by decide +kernel
theorem d_Machine_perform_24 : decode b_Machine_perform 24 = .ok (.getfield 86, 3) := by decide +kernel
theorem d_Machine_perform_27 : decode b_Machine_perform 27 = .ok (.invokevirtual 95, 3) := by decide +kernel
theorem d_Machine_perform_30 : decode b_Machine_perform 30 = .ok (.istore 4, 2) := by decide +kernel
theorem d_Machine_perform_32 : decode b_Machine_perform 32 = .ok (.iload_n 3, 1) := by decide +kernel
theorem d_Machine_perform_33 : decode b_Machine_perform 33 = .ok (.tableswitch 130 8 15 #[47, 47, 47, 57, 75, 92, 106, 118], 47) := by decide +kernel
theorem d_Machine_perform_80 : decode b_Machine_perform 80 = .ok (.aload_n 2, 1) := by decide +kernel
theorem d_Machine_perform_81 : decode b_Machine_perform 81 = .ok (.iload_n 3, 1) := by decide +kernel
theorem d_Machine_perform_82 : decode b_Machine_perform 82 = .ok (.iload 4, 2) := by decide +kernel
theorem d_Machine_perform_84 : decode b_Machine_perform 84 = .ok (.invokevirtual 98, 3) := by decide +kernel
theorem d_Machine_perform_87 : decode b_Machine_perform 87 = .ok (.goto 83, 3) := by decide +kernel
theorem d_Machine_perform_90 : decode b_Machine_perform 90 = .ok (.aload_n 0, 1) := by decide +kernel
theorem d_Machine_perform_91 : decode b_Machine_perform 91 = .ok (.aload_n 1, 1) := by decide +kernel
theorem d_Machine_perform_92 : decode b_Machine_perform 92 = .ok (.aload_n 0, 1) := by decide +kernel
theorem d_Machine_perform_93 : decode b_Machine_perform 93 = .ok (.getfield 12, 3) := by decide +kernel
theorem d_Machine_perform_96 : decode b_Machine_perform 96 = .ok (.iload 4, 2) := by decide +kernel
theorem d_Machine_perform_98 : decode b_Machine_perform 98 = .ok (.invokevirtual 102, 3) := by decide +kernel
theorem d_Machine_perform_101 : decode b_Machine_perform 101 = .ok (.i2l, 1) := by decide +kernel
theorem d_Machine_perform_102 : decode b_Machine_perform 102 = .ok (.invokevirtual 105, 3) := by decide +kernel
theorem d_Machine_perform_105 : decode b_Machine_perform 105 = .ok (.goto 65, 3) := by decide +kernel
theorem d_Machine_perform_108 : decode b_Machine_perform 108 = .ok (.aload_n 0, 1) := by decide +kernel
theorem d_Machine_perform_109 : decode b_Machine_perform 109 = .ok (.aload_n 1, 1) := by decide +kernel
theorem d_Machine_perform_110 : decode b_Machine_perform 110 = .ok (.aload_n 2, 1) := by decide +kernel
theorem d_Machine_perform_111 : decode b_Machine_perform 111 = .ok (.invokevirtual 109, 3) := by decide +kernel
theorem d_Machine_perform_114 : decode b_Machine_perform 114 = .ok (.iload 4, 2) := by decide +kernel
theorem d_Machine_perform_116 : decode b_Machine_perform 116 = .ok (.invokestatic 113, 3) := by decide +kernel
theorem d_Machine_perform_119 : decode b_Machine_perform 119 = .ok (.invokevirtual 105, 3) := by decide +kernel
theorem d_Machine_perform_122 : decode b_Machine_perform 122 = .ok (.goto 48, 3) := by decide +kernel
theorem d_Machine_perform_125 : decode b_Machine_perform 125 = .ok (.aload_n 0, 1) := by decide +kernel
theorem d_Machine_perform_126 : decode b_Machine_perform 126 = .ok (.aload_n 1, 1) := by decide +kernel
theorem d_Machine_perform_127 : decode b_Machine_perform 127 = .ok (.iload 4, 2) := by decide +kernel
theorem d_Machine_perform_129 : decode b_Machine_perform 129 = .ok (.aload_n 2, 1) := by decide +kernel
theorem d_Machine_perform_130 : decode b_Machine_perform 130 = .ok (.invokevirtual 109, 3) := by decide +kernel
theorem d_Machine_perform_133 : decode b_Machine_perform 133 = .ok (.invokevirtual 117, 3) := by decide +kernel
theorem d_Machine_perform_136 : decode b_Machine_perform 136 = .ok (.goto 34, 3) := by decide +kernel
theorem d_Machine_perform_139 : decode b_Machine_perform 139 = .ok (.aload_n 0, 1) := by decide +kernel
theorem d_Machine_perform_140 : decode b_Machine_perform 140 = .ok (.aload_n 1, 1) := by decide +kernel
theorem d_Machine_perform_141 : decode b_Machine_perform 141 = .ok (.aload_n 2, 1) := by decide +kernel
theorem d_Machine_perform_142 : decode b_Machine_perform 142 = .ok (.invokevirtual 109, 3) := by decide +kernel
theorem d_Machine_perform_145 : decode b_Machine_perform 145 = .ok (.invokevirtual 121, 3) := by decide +kernel
theorem d_Machine_perform_148 : decode b_Machine_perform 148 = .ok (.goto 22, 3) := by decide +kernel
theorem d_Machine_perform_151 : decode b_Machine_perform 151 = .ok (.aload_n 0, 1) := by decide +kernel
theorem d_Machine_perform_152 : decode b_Machine_perform 152 = .ok (.aload_n 1, 1) := by decide +kernel
theorem d_Machine_perform_153 : decode b_Machine_perform 153 = .ok (.aload_n 2, 1) := by decide +kernel
theorem d_Machine_perform_154 : decode b_Machine_perform 154 = .ok (.invokevirtual 109, 3) := by decide +kernel
theorem d_Machine_perform_157 : decode b_Machine_perform 157 = .ok (.invokevirtual 125, 3) := by decide +kernel
theorem d_Machine_perform_160 : decode b_Machine_perform 160 = .ok (.goto 10, 3) := by decide +kernel
theorem d_Machine_perform_163 : decode b_Machine_perform 163 = .ok (.aload_n 2, 1) := by decide +kernel
theorem d_Machine_perform_164 : decode b_Machine_perform 164 = .ok (.iload_n 3, 1) := by decide +kernel
theorem d_Machine_perform_165 : decode b_Machine_perform 165 = .ok (.iload 4, 2) := by decide +kernel
theorem d_Machine_perform_167 : decode b_Machine_perform 167 = .ok (.invokevirtual 128, 3) := by decide +kernel
theorem d_Machine_perform_170 : decode b_Machine_perform 170 = .ok (.return_, 1) := by decide +kernel
def f_Machine_perform (x0 : Nat) (x1 : Nat) (M : fm_M) : Option fm_M :=
  (ck x1 7).bind fun _ =>
  bd (f_Strand_top x1 M) fun q104 M102 =>
  (ck x0 5).bind fun _ =>
  bd (f_Machine_codeOf x0 q104 M102) fun q108 M106 =>
  (gi q104 2 3 M106).bind fun x109 =>
  (ck q108 1).bind fun _ =>
  bd (f_Code_operationAt q108 x109 M106) fun x114 M112 =>
  (ck x0 5).bind fun _ =>
  bd (f_Machine_codeOf x0 q104 M112) fun q118 M116 =>
  (gi q104 2 3 M116).bind fun x119 =>
  (ck q118 1).bind fun _ =>
  bd (f_Code_argumentAt q118 x119 M116) fun x124 M122 =>
  if x114 = 8 then
    (ck q104 2).bind fun _ =>
    (f_Frame_branch q104 x114 x124 M122).bind fun M127 =>
    some M127
  else
  if x114 = 9 then
    (ck q104 2).bind fun _ =>
    (f_Frame_branch q104 x114 x124 M122).bind fun M131 =>
    some M131
  else
  if x114 = 10 then
    (ck q104 2).bind fun _ =>
    (f_Frame_branch q104 x114 x124 M122).bind fun M135 =>
    some M135
  else
  if x114 = 11 then
    (gr x0 5 0).bind fun q138 =>
    (ck q138 8).bind fun _ =>
    bd (f_Types_sizeOf q138 x124 M122) fun x143 M141 =>
    (ck x0 5).bind fun _ =>
    (f_Machine_make x0 x1 x143.toInt64 M141).bind fun M145 =>
    some M145
  else
  if x114 = 12 then
    (ck q104 2).bind fun _ =>
    bd (f_Frame_pop q104 M122) fun x151 M149 =>
    bd (f_Machine_arraySize x151 x124 M149) fun x154 M152 =>
    (ck x0 5).bind fun _ =>
    (f_Machine_make x0 x1 x154 M152).bind fun M156 =>
    some M156
  else
  if x114 = 13 then
    (ck q104 2).bind fun _ =>
    bd (f_Frame_pop q104 M122) fun x162 M160 =>
    (ck x0 5).bind fun _ =>
    (f_Machine_callMethod x0 x1 x124 x162 M160).bind fun M164 =>
    some M164
  else
  if x114 = 14 then
    (ck q104 2).bind fun _ =>
    bd (f_Frame_pop q104 M122) fun x170 M168 =>
    (ck x0 5).bind fun _ =>
    (f_Machine_giveBack x0 x1 x170 M168).bind fun M172 =>
    some M172
  else
  if x114 = 15 then
    (ck q104 2).bind fun _ =>
    bd (f_Frame_pop q104 M122) fun x178 M176 =>
    (ck x0 5).bind fun _ =>
    (f_Machine_raise x0 x1 x178 M176).bind fun M180 =>
    some M180
  else
    (ck q104 2).bind fun _ =>
    (f_Frame_compute q104 x114 x124 M122).bind fun M183 =>
    some M183
set_option maxHeartbeats 4000000 in
set_option maxRecDepth 100000 in
theorem c_Machine_perform (l : Launch) (G : fm_G) (x0 : Nat) (x1 : Nat) {M M' : fm_M} (h : f_Machine_perform x0 x1 M = some M') : kMet l y_Machine_perform b_Machine_perform 5 none rm_Machine_perform G M [.ref (G.2.2 + x0), .ref (G.2.2 + x1)] none M' := by
  refine r_met (by decide) rfl (Nat.le_of_ble_eq_true rfl) (fun p e s m args below meth c C0 hP ls hl => ?_)
  have hx := C0.1
  have hb := C0.2.1
  have hl : lv_has ls 5 [(0, .ref (G.2.2 + x0)), (1, .ref (G.2.2 + x1))] := hl
  have hS : va_S (fm_A G.2.2) s.heap s.heap [] := va_S.rf
  unfold f_Machine_perform at h
  refine lv_aload_n hx hb d_Machine_perform_0 rfl (lv_at hl 1 rfl) ?_
  obtain ⟨_, e101, h⟩ := ob h
  obtain ⟨q104, M102, e103, h⟩ := ob2 h
  refine k_cV C0 L_Machine_78 (As := []) (c_Strand_top l G x1 e103) ⟨rfl, rfl⟩ ⟨Nat.le_of_ble_eq_true rfl, Nat.le_of_ble_eq_true rfl⟩ hP hS (ck_of e101) ly_Strand rfl hl.1 rfl (Nat.le_of_ble_eq_true rfl) d_Machine_perform_1 ⟨Nat.zero_le _, Nat.zero_le _⟩ (fun H locs hP hS => ?_)
  refine lv_astore_n (lv' := [(2, .ref (G.2.2 + q104)), (0, .ref (G.2.2 + x0)), (1, .ref (G.2.2 + x1))]) hx hb d_Machine_perform_4 rfl hl (by decide) rfl (fun ls hl => ?_)
  refine lv_aload_n hx hb d_Machine_perform_5 rfl (lv_at hl 1 rfl) ?_
  refine lv_aload_n hx hb d_Machine_perform_6 rfl (lv_at hl 0 rfl) ?_
  obtain ⟨_, e105, h⟩ := ob h
  obtain ⟨q108, M106, e107, h⟩ := ob2 h
  refine k_cV C0 L_Machine_82 (As := [.ref (G.2.2 + q104)]) (c_Machine_codeOf l G x0 q104 e107) ⟨rfl, rfl⟩ ⟨Nat.le_of_ble_eq_true rfl, Nat.le_of_ble_eq_true rfl⟩ hP hS (ck_of e105) ly_Machine rfl hl.1 rfl (Nat.le_of_ble_eq_true rfl) d_Machine_perform_7 ⟨Nat.zero_le _, Nat.zero_le _⟩ (fun H locs hP hS => ?_)
  refine lv_aload_n hx hb d_Machine_perform_10 rfl (lv_at hl 0 rfl) ?_
  obtain ⟨x109, e110, h⟩ := ob h
  refine k_gi C0 F_Machine_86 ik_2_3 hP e110 d_Machine_perform_11 ?_
  obtain ⟨_, e111, h⟩ := ob h
  obtain ⟨x114, M112, e113, h⟩ := ob2 h
  refine k_cV C0 L_Machine_89 (As := [.int x109]) (c_Code_operationAt l G q108 x109 e113) ⟨rfl, rfl⟩ ⟨Nat.le_of_ble_eq_true rfl, Nat.le_of_ble_eq_true rfl⟩ hP hS (ck_of e111) ly_Code rfl hl.1 rfl (Nat.le_of_ble_eq_true rfl) d_Machine_perform_14 ⟨Nat.zero_le _, Nat.zero_le _⟩ (fun H locs hP hS => ?_)
  refine lv_istore_n (lv' := [(3, .int x114), (2, .ref (G.2.2 + q104)), (0, .ref (G.2.2 + x0)), (1, .ref (G.2.2 + x1))]) hx hb d_Machine_perform_17 rfl hl (by decide) rfl (fun ls hl => ?_)
  refine lv_aload_n hx hb d_Machine_perform_18 rfl (lv_at hl 2 rfl) ?_
  refine lv_aload_n hx hb d_Machine_perform_19 rfl (lv_at hl 1 rfl) ?_
  obtain ⟨_, e115, h⟩ := ob h
  obtain ⟨q118, M116, e117, h⟩ := ob2 h
  refine k_cV C0 L_Machine_82 (As := [.ref (G.2.2 + q104)]) (c_Machine_codeOf l G x0 q104 e117) ⟨rfl, rfl⟩ ⟨Nat.le_of_ble_eq_true rfl, Nat.le_of_ble_eq_true rfl⟩ hP hS (ck_of e115) ly_Machine rfl hl.1 rfl (Nat.le_of_ble_eq_true rfl) d_Machine_perform_20 ⟨Nat.zero_le _, Nat.zero_le _⟩ (fun H locs hP hS => ?_)
  refine lv_aload_n hx hb d_Machine_perform_23 rfl (lv_at hl 1 rfl) ?_
  obtain ⟨x119, e120, h⟩ := ob h
  refine k_gi C0 F_Machine_86 ik_2_3 hP e120 d_Machine_perform_24 ?_
  obtain ⟨_, e121, h⟩ := ob h
  obtain ⟨x124, M122, e123, h⟩ := ob2 h
  refine k_cV C0 L_Machine_95 (As := [.int x119]) (c_Code_argumentAt l G q118 x119 e123) ⟨rfl, rfl⟩ ⟨Nat.le_of_ble_eq_true rfl, Nat.le_of_ble_eq_true rfl⟩ hP hS (ck_of e121) ly_Code rfl hl.1 rfl (Nat.le_of_ble_eq_true rfl) d_Machine_perform_27 ⟨Nat.zero_le _, Nat.zero_le _⟩ (fun H locs hP hS => ?_)
  refine lv_istore (lv' := [(4, .int x124), (3, .int x114), (2, .ref (G.2.2 + q104)), (0, .ref (G.2.2 + x0)), (1, .ref (G.2.2 + x1))]) hx hb d_Machine_perform_30 hl (by decide) rfl (fun ls hl => ?_)
  refine lv_iload_n hx hb d_Machine_perform_32 rfl (lv_at hl 1 rfl) ?_
  by_cases c125 : x114 = 8
  · rw [if_pos c125] at h
    rw [c125]
    refine lv_tableIn hx hb d_Machine_perform_33 (by decide) (by decide) (ho := rfl) (tgt := 80) (by decide) ?_
    refine lv_aload_n hx hb d_Machine_perform_80 rfl (lv_at hl 2 rfl) ?_
    refine lv_iload_n hx hb d_Machine_perform_81 rfl (lv_at hl 1 rfl) ?_
    refine lv_iload hx hb d_Machine_perform_82 (lv_at hl 0 rfl) ?_
    obtain ⟨_, e126, h⟩ := ob h
    obtain ⟨M127, e128, h⟩ := ob h
    refine k_cVv C0 L_Machine_98 (As := [.int x114, .int x124]) (c_Frame_branch l G q104 x114 x124 e128) ⟨rfl, rfl⟩ ⟨Nat.le_of_ble_eq_true rfl, Nat.le_of_ble_eq_true rfl⟩ hP hS (ck_of e126) ly_Frame rfl hl.1 rfl (Nat.le_of_ble_eq_true rfl) d_Machine_perform_84 ⟨Nat.zero_le _, Nat.zero_le _⟩ (fun H locs hP hS => ?_)
    refine lv_goto (tgt := 170) hx hb d_Machine_perform_87 (by decide) ?_
    cases h
    exact r_vret C0 hP hS d_Machine_perform_170
  rw [if_neg c125] at h
  by_cases c129 : x114 = 9
  · rw [if_pos c129] at h
    rw [c129]
    refine lv_tableIn hx hb d_Machine_perform_33 (by decide) (by decide) (ho := rfl) (tgt := 80) (by decide) ?_
    refine lv_aload_n hx hb d_Machine_perform_80 rfl (lv_at hl 2 rfl) ?_
    refine lv_iload_n hx hb d_Machine_perform_81 rfl (lv_at hl 1 rfl) ?_
    refine lv_iload hx hb d_Machine_perform_82 (lv_at hl 0 rfl) ?_
    obtain ⟨_, e130, h⟩ := ob h
    obtain ⟨M131, e132, h⟩ := ob h
    refine k_cVv C0 L_Machine_98 (As := [.int x114, .int x124]) (c_Frame_branch l G q104 x114 x124 e132) ⟨rfl, rfl⟩ ⟨Nat.le_of_ble_eq_true rfl, Nat.le_of_ble_eq_true rfl⟩ hP hS (ck_of e130) ly_Frame rfl hl.1 rfl (Nat.le_of_ble_eq_true rfl) d_Machine_perform_84 ⟨Nat.zero_le _, Nat.zero_le _⟩ (fun H locs hP hS => ?_)
    refine lv_goto (tgt := 170) hx hb d_Machine_perform_87 (by decide) ?_
    cases h
    exact r_vret C0 hP hS d_Machine_perform_170
  rw [if_neg c129] at h
  by_cases c133 : x114 = 10
  · rw [if_pos c133] at h
    rw [c133]
    refine lv_tableIn hx hb d_Machine_perform_33 (by decide) (by decide) (ho := rfl) (tgt := 80) (by decide) ?_
    refine lv_aload_n hx hb d_Machine_perform_80 rfl (lv_at hl 2 rfl) ?_
    refine lv_iload_n hx hb d_Machine_perform_81 rfl (lv_at hl 1 rfl) ?_
    refine lv_iload hx hb d_Machine_perform_82 (lv_at hl 0 rfl) ?_
    obtain ⟨_, e134, h⟩ := ob h
    obtain ⟨M135, e136, h⟩ := ob h
    refine k_cVv C0 L_Machine_98 (As := [.int x114, .int x124]) (c_Frame_branch l G q104 x114 x124 e136) ⟨rfl, rfl⟩ ⟨Nat.le_of_ble_eq_true rfl, Nat.le_of_ble_eq_true rfl⟩ hP hS (ck_of e134) ly_Frame rfl hl.1 rfl (Nat.le_of_ble_eq_true rfl) d_Machine_perform_84 ⟨Nat.zero_le _, Nat.zero_le _⟩ (fun H locs hP hS => ?_)
    refine lv_goto (tgt := 170) hx hb d_Machine_perform_87 (by decide) ?_
    cases h
    exact r_vret C0 hP hS d_Machine_perform_170
  rw [if_neg c133] at h
  by_cases c137 : x114 = 11
  · rw [if_pos c137] at h
    rw [c137]
    refine lv_tableIn hx hb d_Machine_perform_33 (by decide) (by decide) (ho := rfl) (tgt := 90) (by decide) ?_
    refine lv_aload_n hx hb d_Machine_perform_90 rfl (lv_at hl 3 rfl) ?_
    refine lv_aload_n hx hb d_Machine_perform_91 rfl (lv_at hl 4 rfl) ?_
    refine lv_aload_n hx hb d_Machine_perform_92 rfl (lv_at hl 3 rfl) ?_
    obtain ⟨q138, e139, h⟩ := ob h
    refine k_gr C0 F_Machine_12 hP e139 d_Machine_perform_93 ?_
    refine lv_iload hx hb d_Machine_perform_96 (lv_at hl 0 rfl) ?_
    obtain ⟨_, e140, h⟩ := ob h
    obtain ⟨x143, M141, e142, h⟩ := ob2 h
    refine k_cV C0 L_Machine_102 (As := [.int x124]) (c_Types_sizeOf l G q138 x124 e142) ⟨rfl, rfl⟩ ⟨Nat.le_of_ble_eq_true rfl, Nat.le_of_ble_eq_true rfl⟩ hP hS (ck_of e140) ly_Types rfl hl.1 rfl (Nat.le_of_ble_eq_true rfl) d_Machine_perform_98 ⟨Nat.zero_le _, Nat.zero_le _⟩ (fun H locs hP hS => ?_)
    refine lv_i2l hx hb d_Machine_perform_101 rfl ?_
    obtain ⟨_, e144, h⟩ := ob h
    obtain ⟨M145, e146, h⟩ := ob h
    refine k_cVv C0 L_Machine_105 (As := [.ref (G.2.2 + x1), .long x143.toInt64]) (c_Machine_make l G x0 x1 x143.toInt64 e146) ⟨rfl, rfl⟩ ⟨Nat.le_of_ble_eq_true rfl, Nat.le_of_ble_eq_true rfl⟩ hP hS (ck_of e144) ly_Machine rfl hl.1 rfl (Nat.le_of_ble_eq_true rfl) d_Machine_perform_102 ⟨Nat.zero_le _, Nat.zero_le _⟩ (fun H locs hP hS => ?_)
    refine lv_goto (tgt := 170) hx hb d_Machine_perform_105 (by decide) ?_
    cases h
    exact r_vret C0 hP hS d_Machine_perform_170
  rw [if_neg c137] at h
  by_cases c147 : x114 = 12
  · rw [if_pos c147] at h
    rw [c147]
    refine lv_tableIn hx hb d_Machine_perform_33 (by decide) (by decide) (ho := rfl) (tgt := 108) (by decide) ?_
    refine lv_aload_n hx hb d_Machine_perform_108 rfl (lv_at hl 3 rfl) ?_
    refine lv_aload_n hx hb d_Machine_perform_109 rfl (lv_at hl 4 rfl) ?_
    refine lv_aload_n hx hb d_Machine_perform_110 rfl (lv_at hl 2 rfl) ?_
    obtain ⟨_, e148, h⟩ := ob h
    obtain ⟨x151, M149, e150, h⟩ := ob2 h
    refine k_cV C0 L_Machine_109 (As := []) (c_Frame_pop l G q104 e150) ⟨rfl, rfl⟩ ⟨Nat.le_of_ble_eq_true rfl, Nat.le_of_ble_eq_true rfl⟩ hP hS (ck_of e148) ly_Frame rfl hl.1 rfl (Nat.le_of_ble_eq_true rfl) d_Machine_perform_111 ⟨Nat.zero_le _, Nat.zero_le _⟩ (fun H locs hP hS => ?_)
    refine lv_iload hx hb d_Machine_perform_114 (lv_at hl 0 rfl) ?_
    obtain ⟨x154, M152, e153, h⟩ := ob2 h
    refine k_cS C0 L_Machine_113 (As := [.int x151, .int x124]) (c_Machine_arraySize l G x151 x124 e153) ⟨rfl, rfl⟩ ⟨Nat.le_of_ble_eq_true rfl, Nat.le_of_ble_eq_true rfl⟩ hP hS rfl hl.1 rfl (Nat.le_of_ble_eq_true rfl) d_Machine_perform_116 ⟨Nat.zero_le _, Nat.zero_le _⟩ (fun H locs hP hS => ?_)
    obtain ⟨_, e155, h⟩ := ob h
    obtain ⟨M156, e157, h⟩ := ob h
    refine k_cVv C0 L_Machine_105 (As := [.ref (G.2.2 + x1), .long x154]) (c_Machine_make l G x0 x1 x154 e157) ⟨rfl, rfl⟩ ⟨Nat.le_of_ble_eq_true rfl, Nat.le_of_ble_eq_true rfl⟩ hP hS (ck_of e155) ly_Machine rfl hl.1 rfl (Nat.le_of_ble_eq_true rfl) d_Machine_perform_119 ⟨Nat.zero_le _, Nat.zero_le _⟩ (fun H locs hP hS => ?_)
    refine lv_goto (tgt := 170) hx hb d_Machine_perform_122 (by decide) ?_
    cases h
    exact r_vret C0 hP hS d_Machine_perform_170
  rw [if_neg c147] at h
  by_cases c158 : x114 = 13
  · rw [if_pos c158] at h
    rw [c158]
    refine lv_tableIn hx hb d_Machine_perform_33 (by decide) (by decide) (ho := rfl) (tgt := 125) (by decide) ?_
    refine lv_aload_n hx hb d_Machine_perform_125 rfl (lv_at hl 3 rfl) ?_
    refine lv_aload_n hx hb d_Machine_perform_126 rfl (lv_at hl 4 rfl) ?_
    refine lv_iload hx hb d_Machine_perform_127 (lv_at hl 0 rfl) ?_
    refine lv_aload_n hx hb d_Machine_perform_129 rfl (lv_at hl 2 rfl) ?_
    obtain ⟨_, e159, h⟩ := ob h
    obtain ⟨x162, M160, e161, h⟩ := ob2 h
    refine k_cV C0 L_Machine_109 (As := []) (c_Frame_pop l G q104 e161) ⟨rfl, rfl⟩ ⟨Nat.le_of_ble_eq_true rfl, Nat.le_of_ble_eq_true rfl⟩ hP hS (ck_of e159) ly_Frame rfl hl.1 rfl (Nat.le_of_ble_eq_true rfl) d_Machine_perform_130 ⟨Nat.zero_le _, Nat.zero_le _⟩ (fun H locs hP hS => ?_)
    obtain ⟨_, e163, h⟩ := ob h
    obtain ⟨M164, e165, h⟩ := ob h
    refine k_cVv C0 L_Machine_117 (As := [.ref (G.2.2 + x1), .int x124, .int x162]) (c_Machine_callMethod l G x0 x1 x124 x162 e165) ⟨rfl, rfl⟩ ⟨Nat.le_of_ble_eq_true rfl, Nat.le_of_ble_eq_true rfl⟩ hP hS (ck_of e163) ly_Machine rfl hl.1 rfl (Nat.le_of_ble_eq_true rfl) d_Machine_perform_133 ⟨Nat.zero_le _, Nat.zero_le _⟩ (fun H locs hP hS => ?_)
    refine lv_goto (tgt := 170) hx hb d_Machine_perform_136 (by decide) ?_
    cases h
    exact r_vret C0 hP hS d_Machine_perform_170
  rw [if_neg c158] at h
  by_cases c166 : x114 = 14
  · rw [if_pos c166] at h
    rw [c166]
    refine lv_tableIn hx hb d_Machine_perform_33 (by decide) (by decide) (ho := rfl) (tgt := 139) (by decide) ?_
    refine lv_aload_n hx hb d_Machine_perform_139 rfl (lv_at hl 3 rfl) ?_
    refine lv_aload_n hx hb d_Machine_perform_140 rfl (lv_at hl 4 rfl) ?_
    refine lv_aload_n hx hb d_Machine_perform_141 rfl (lv_at hl 2 rfl) ?_
    obtain ⟨_, e167, h⟩ := ob h
    obtain ⟨x170, M168, e169, h⟩ := ob2 h
    refine k_cV C0 L_Machine_109 (As := []) (c_Frame_pop l G q104 e169) ⟨rfl, rfl⟩ ⟨Nat.le_of_ble_eq_true rfl, Nat.le_of_ble_eq_true rfl⟩ hP hS (ck_of e167) ly_Frame rfl hl.1 rfl (Nat.le_of_ble_eq_true rfl) d_Machine_perform_142 ⟨Nat.zero_le _, Nat.zero_le _⟩ (fun H locs hP hS => ?_)
    obtain ⟨_, e171, h⟩ := ob h
    obtain ⟨M172, e173, h⟩ := ob h
    refine k_cVv C0 L_Machine_121 (As := [.ref (G.2.2 + x1), .int x170]) (c_Machine_giveBack l G x0 x1 x170 e173) ⟨rfl, rfl⟩ ⟨Nat.le_of_ble_eq_true rfl, Nat.le_of_ble_eq_true rfl⟩ hP hS (ck_of e171) ly_Machine rfl hl.1 rfl (Nat.le_of_ble_eq_true rfl) d_Machine_perform_145 ⟨Nat.zero_le _, Nat.zero_le _⟩ (fun H locs hP hS => ?_)
    refine lv_goto (tgt := 170) hx hb d_Machine_perform_148 (by decide) ?_
    cases h
    exact r_vret C0 hP hS d_Machine_perform_170
  rw [if_neg c166] at h
  by_cases c174 : x114 = 15
  · rw [if_pos c174] at h
    rw [c174]
    refine lv_tableIn hx hb d_Machine_perform_33 (by decide) (by decide) (ho := rfl) (tgt := 151) (by decide) ?_
    refine lv_aload_n hx hb d_Machine_perform_151 rfl (lv_at hl 3 rfl) ?_
    refine lv_aload_n hx hb d_Machine_perform_152 rfl (lv_at hl 4 rfl) ?_
    refine lv_aload_n hx hb d_Machine_perform_153 rfl (lv_at hl 2 rfl) ?_
    obtain ⟨_, e175, h⟩ := ob h
    obtain ⟨x178, M176, e177, h⟩ := ob2 h
    refine k_cV C0 L_Machine_109 (As := []) (c_Frame_pop l G q104 e177) ⟨rfl, rfl⟩ ⟨Nat.le_of_ble_eq_true rfl, Nat.le_of_ble_eq_true rfl⟩ hP hS (ck_of e175) ly_Frame rfl hl.1 rfl (Nat.le_of_ble_eq_true rfl) d_Machine_perform_154 ⟨Nat.zero_le _, Nat.zero_le _⟩ (fun H locs hP hS => ?_)
    obtain ⟨_, e179, h⟩ := ob h
    obtain ⟨M180, e181, h⟩ := ob h
    refine k_cVv C0 L_Machine_125 (As := [.ref (G.2.2 + x1), .int x178]) (c_Machine_raise l G x0 x1 x178 e181) ⟨rfl, rfl⟩ ⟨Nat.le_of_ble_eq_true rfl, Nat.le_of_ble_eq_true rfl⟩ hP hS (ck_of e179) ly_Machine rfl hl.1 rfl (Nat.le_of_ble_eq_true rfl) d_Machine_perform_157 ⟨Nat.zero_le _, Nat.zero_le _⟩ (fun H locs hP hS => ?_)
    refine lv_goto (tgt := 170) hx hb d_Machine_perform_160 (by decide) ?_
    cases h
    exact r_vret C0 hP hS d_Machine_perform_170
  rw [if_neg c174] at h
  have nc125 := lv_neT c125 ti_8
  have nc129 := lv_neT c129 ti_9
  have nc133 := lv_neT c133 ti_10
  have nc137 := lv_neT c137 ti_11
  have nc147 := lv_neT c147 ti_12
  have nc158 := lv_neT c158 ti_13
  have nc166 := lv_neT c166 ti_14
  have nc174 := lv_neT c174 ti_15
  refine lv_tableOut hx hb d_Machine_perform_33 (by omega) (tgt := 163) (by decide) ?_
  refine lv_aload_n hx hb d_Machine_perform_163 rfl (lv_at hl 2 rfl) ?_
  refine lv_iload_n hx hb d_Machine_perform_164 rfl (lv_at hl 1 rfl) ?_
  refine lv_iload hx hb d_Machine_perform_165 (lv_at hl 0 rfl) ?_
  obtain ⟨_, e182, h⟩ := ob h
  obtain ⟨M183, e184, h⟩ := ob h
  refine k_cVv C0 L_Machine_128 (As := [.int x114, .int x124]) (c_Frame_compute l G q104 x114 x124 e184) ⟨rfl, rfl⟩ ⟨Nat.le_of_ble_eq_true rfl, Nat.le_of_ble_eq_true rfl⟩ hP hS (ck_of e182) ly_Frame rfl hl.1 rfl (Nat.le_of_ble_eq_true rfl) d_Machine_perform_167 ⟨Nat.zero_le _, Nat.zero_le _⟩ (fun H locs hP hS => ?_)
  cases h
  exact r_vret C0 hP hS d_Machine_perform_170
/-! AllocationProfiler$Machine.countStep -/
def rm_Machine_countStep : Room := { frames := 1, cells := 0, slots := 0, locals := 21 }
theorem d_Machine_countStep_0 : decode b_Machine_countStep 0 = .ok (.aload_n 0, 1) := by decide +kernel
theorem d_Machine_countStep_1 : decode b_Machine_countStep 1 = .ok (.dup, 1) := by decide +kernel
theorem d_Machine_countStep_2 : decode b_Machine_countStep 2 = .ok (.getfield 48, 3) := by decide +kernel
theorem d_Machine_countStep_5 : decode b_Machine_countStep 5 = .ok (.iconst 1, 1) := by decide +kernel
theorem d_Machine_countStep_6 : decode b_Machine_countStep 6 = .ok (.iadd, 1) := by decide +kernel
theorem d_Machine_countStep_7 : decode b_Machine_countStep 7 = .ok (.putfield 48, 3) := by decide +kernel
theorem d_Machine_countStep_10 : decode b_Machine_countStep 10 = .ok (.aload_n 0, 1) := by decide +kernel
theorem d_Machine_countStep_11 : decode b_Machine_countStep 11 = .ok (.getfield 48, 3) := by decide +kernel
theorem d_Machine_countStep_14 : decode b_Machine_countStep 14 = .ok (.bipush 16, 2) := by decide +kernel
theorem d_Machine_countStep_16 : decode b_Machine_countStep 16 = .ok (.if_icmp .ne 15, 3) := by decide +kernel
theorem d_Machine_countStep_19 : decode b_Machine_countStep 19 = .ok (.aload_n 0, 1) := by decide +kernel
theorem d_Machine_countStep_20 : decode b_Machine_countStep 20 = .ok (.iconst 0, 1) := by decide +kernel
theorem d_Machine_countStep_21 : decode b_Machine_countStep 21 = .ok (.putfield 48, 3) := by decide +kernel
theorem d_Machine_countStep_24 : decode b_Machine_countStep 24 = .ok (.aload_n 0, 1) := by decide +kernel
theorem d_Machine_countStep_25 : decode b_Machine_countStep 25 = .ok (.getfield 34, 3) := by decide +kernel
theorem d_Machine_countStep_28 : decode b_Machine_countStep 28 = .ok (.invokevirtual 66, 3) := by decide +kernel
theorem d_Machine_countStep_31 : decode b_Machine_countStep 31 = .ok (.return_, 1) := by decide +kernel
def f_Machine_countStep (x0 : Nat) (M : fm_M) : Option fm_M :=
  (gi x0 5 6 M).bind fun x101 =>
  (pi x0 5 6 (x101 + 1) M).bind fun M103 =>
  (gi x0 5 6 M103).bind fun x105 =>
  if x105 = 16 then
    (pi x0 5 6 0 M103).bind fun M108 =>
    (gr x0 5 3).bind fun q110 =>
    (ck q110 4).bind fun _ =>
    (f_Ledger_fade q110 M108).bind fun M113 =>
    some M113
  else
    some M103
set_option maxHeartbeats 4000000 in
set_option maxRecDepth 100000 in
theorem c_Machine_countStep (l : Launch) (G : fm_G) (x0 : Nat) {M M' : fm_M} (h : f_Machine_countStep x0 M = some M') : kMet l y_Machine_countStep b_Machine_countStep 1 none rm_Machine_countStep G M [.ref (G.2.2 + x0)] none M' := by
  refine r_met (by decide) rfl (Nat.le_of_ble_eq_true rfl) (fun p e s m args below meth c C0 hP ls hl => ?_)
  have hx := C0.1
  have hb := C0.2.1
  have hl : lv_has ls 1 [(0, .ref (G.2.2 + x0))] := hl
  have hS : va_S (fm_A G.2.2) s.heap s.heap [] := va_S.rf
  unfold f_Machine_countStep at h
  refine lv_aload_n hx hb d_Machine_countStep_0 rfl (lv_at hl 0 rfl) ?_
  refine lv_dup hx hb d_Machine_countStep_1 rfl ?_
  obtain ⟨x101, e102, h⟩ := ob h
  refine k_gi C0 F_Machine_48 ik_5_6 hP e102 d_Machine_countStep_2 ?_
  refine lv_iconst (v := 1) hx hb d_Machine_countStep_5 ic_1 ?_
  refine lv_iadd hx hb d_Machine_countStep_6 ?_
  obtain ⟨M103, e104, h⟩ := ob h
  refine k_pi C0 F_Machine_48p ik_5_6 hP hS e104 d_Machine_countStep_7 (fun H locs hP hS => ?_)
  refine lv_aload_n hx hb d_Machine_countStep_10 rfl (lv_at hl 0 rfl) ?_
  obtain ⟨x105, e106, h⟩ := ob h
  refine k_gi C0 F_Machine_48 ik_5_6 hP e106 d_Machine_countStep_11 ?_
  refine lv_bipush (v := 16) hx hb d_Machine_countStep_14 bp_16 ?_
  refine lv_icmp_ne (tgt := 31) hx hb d_Machine_countStep_16 (by decide) (fun c107 => ?_) (fun c107 => ?_)
  · rw [if_neg c107] at h
    cases h
    exact r_vret C0 hP hS d_Machine_countStep_31
  · rw [if_pos c107] at h
    refine lv_aload_n hx hb d_Machine_countStep_19 rfl (lv_at hl 0 rfl) ?_
    refine lv_iconst (v := 0) hx hb d_Machine_countStep_20 ic_0 ?_
    obtain ⟨M108, e109, h⟩ := ob h
    refine k_pi C0 F_Machine_48p ik_5_6 hP hS e109 d_Machine_countStep_21 (fun H locs hP hS => ?_)
    refine lv_aload_n hx hb d_Machine_countStep_24 rfl (lv_at hl 0 rfl) ?_
    obtain ⟨q110, e111, h⟩ := ob h
    refine k_gr C0 F_Machine_34 hP e111 d_Machine_countStep_25 ?_
    obtain ⟨_, e112, h⟩ := ob h
    obtain ⟨M113, e114, h⟩ := ob h
    refine k_cVv C0 L_Machine_66 (As := []) (c_Ledger_fade l G q110 e114) ⟨rfl, rfl⟩ ⟨Nat.le_of_ble_eq_true rfl, Nat.le_of_ble_eq_true rfl⟩ hP hS (ck_of e112) ly_Ledger rfl hl.1 rfl (Nat.le_of_ble_eq_true rfl) d_Machine_countStep_28 ⟨Nat.zero_le _, Nat.zero_le _⟩ (fun H locs hP hS => ?_)
    cases h
    exact r_vret C0 hP hS d_Machine_countStep_31
/-! AllocationProfiler$Machine.step -/
def rm_Machine_step : Room := { frames := 5, cells := 0, slots := 0, locals := 122 }
theorem d_Machine_step_0 : decode b_Machine_step 0 = .ok (.iconst 0, 1) := by decide +kernel
theorem d_Machine_step_1 : decode b_Machine_step 1 = .ok (.istore_n 1, 1) := by decide +kernel
theorem d_Machine_step_2 : decode b_Machine_step 2 = .ok (.iload_n 1, 1) := by decide +kernel
theorem d_Machine_step_3 : decode b_Machine_step 3 = .ok (.iconst 3, 1) := by decide +kernel
theorem d_Machine_step_4 : decode b_Machine_step 4 = .ok (.if_icmp .ge 49, 3) := by decide +kernel
theorem d_Machine_step_7 : decode b_Machine_step 7 = .ok (.aload_n 0, 1) := by decide +kernel
theorem d_Machine_step_8 : decode b_Machine_step 8 = .ok (.getfield 40, 3) := by decide +kernel
theorem d_Machine_step_11 : decode b_Machine_step 11 = .ok (.aload_n 0, 1) := by decide +kernel
theorem d_Machine_step_12 : decode b_Machine_step 12 = .ok (.getfield 44, 3) := by decide +kernel
theorem d_Machine_step_15 : decode b_Machine_step 15 = .ok (.aaload, 1) := by decide +kernel
theorem d_Machine_step_16 : decode b_Machine_step 16 = .ok (.astore_n 2, 1) := by decide +kernel
theorem d_Machine_step_17 : decode b_Machine_step 17 = .ok (.aload_n 0, 1) := by decide +kernel
theorem d_Machine_step_18 : decode b_Machine_step 18 = .ok (.aload_n 0, 1) := by decide +kernel
theorem d_Machine_step_19 : decode b_Machine_step 19 = .ok (.getfield 44, 3) := by decide +kernel
theorem d_Machine_step_22 : decode b_Machine_step 22 = .ok (.iconst 1, 1) := by decide +kernel
theorem d_Machine_step_23 : decode b_Machine_step 23 = .ok (.iadd, 1) := by decide +kernel
theorem d_Machine_step_24 : decode b_Machine_step 24 = .ok (.iconst 3, 1) := by decide +kernel
theorem d_Machine_step_25 : decode b_Machine_step 25 = .ok (.irem, 1) := by decide +kernel
theorem d_Machine_step_26 : decode b_Machine_step 26 = .ok (.putfield 44, 3) := by decide +kernel
theorem d_Machine_step_29 : decode b_Machine_step 29 = .ok (.aload_n 2, 1) := by decide +kernel
theorem d_Machine_step_30 : decode b_Machine_step 30 = .ok (.invokevirtual 55, 3) := by decide +kernel
theorem d_Machine_step_33 : decode b_Machine_step 33 = .ok (.ifCond .eq 14, 3) := by decide +kernel
theorem d_Machine_step_36 : decode b_Machine_step 36 = .ok (.aload_n 0, 1) := by decide +kernel
theorem d_Machine_step_37 : decode b_Machine_step 37 = .ok (.aload_n 2, 1) := by decide +kernel
theorem d_Machine_step_38 : decode b_Machine_step 38 = .ok (.invokevirtual 59, 3) := by decide +kernel
theorem d_Machine_step_41 : decode b_Machine_step 41 = .ok (.aload_n 0, 1) := by decide +kernel
theorem d_Machine_step_42 : decode b_Machine_step 42 = .ok (.invokevirtual 63, 3) := by decide +kernel
theorem d_Machine_step_45 : decode b_Machine_step 45 = .ok (.iconst 1, 1) := by decide +kernel
theorem d_Machine_step_46 : decode b_Machine_step 46 = .ok (.ireturn, 1) := by decide +kernel
theorem d_Machine_step_47 : decode b_Machine_step 47 = .ok (.iinc 1 1, 3) := by decide +kernel
theorem d_Machine_step_50 : decode b_Machine_step 50 = .ok (.goto (-48), 3) := by decide +kernel
theorem d_Machine_step_53 : decode b_Machine_step 53 = .ok (.iconst 0, 1) := by decide +kernel
theorem d_Machine_step_54 : decode b_Machine_step 54 = .ok (.ireturn, 1) := by decide +kernel
def h_Machine_step_2 : Nat → Nat → Int32 → fm_M → Option (Int32 × fm_M)
  | 0, _, _, _ => none
  | n + 1, x0, x1, M =>
    if 3 ≤ x1 then
      some (0, M)
    else
      (gr x0 5 4).bind fun q102 =>
      (gi x0 5 5 M).bind fun x104 =>
      (ar q102 x104).bind fun q106 =>
      (gi x0 5 5 M).bind fun x108 =>
      (pi x0 5 5 ((x108 + 1) - (x108 + 1) / 3 * 3) M).bind fun M110 =>
      (ck q106 7).bind fun _ =>
      bd (f_Strand_isRunning q106 M110) fun x115 M113 =>
      if x115 = 0 then
        h_Machine_step_2 n x0 (x1 + 1) M113
      else
        (ck x0 5).bind fun _ =>
        (f_Machine_perform x0 q106 M113).bind fun M118 =>
        (ck x0 5).bind fun _ =>
        (f_Machine_countStep x0 M118).bind fun M121 =>
        some (1, M121)
def f_Machine_step (x0 : Nat) (M : fm_M) : Option (Int32 × fm_M) :=
  h_Machine_step_2 100000 x0 0 M
set_option maxHeartbeats 4000000 in
set_option maxRecDepth 100000 in
theorem w_Machine_step_2 {p : Program} {l : Launch} {e : Env} {s : State} {m : MethodId} {args : Array Value} {below : List Frame} {meth : Method} {c : Code} {G : fm_G} (C0 : fm_C p s m args meth c G (.code y_Machine_step b_Machine_step 3 (some .boolean)) "AllocationProfiler$Machine" b_Machine_step 3 (some .boolean)) {v : Int32} {M' : fm_M} : ∀ (n : Nat) (x0 : Nat) (x1 : Int32) {M : fm_M} {H : Heap} {locs : List Loc}, kP G M H → kS G s H locs → ∀ {ls : Array Slot}, lv_has ls 3 [(0, .ref (G.2.2 + x0)), (1, .int x1)] → h_Machine_step_2 n x0 x1 M = some (v, M') → W p l e rm_Machine_step s m args below meth c H locs 0 0 (MQ below (fm_Q G 212 shF (some (.int v)) M') args s 0 0 (fm_A G.2.2)) (F0 m 2 ls []) := by
  have hx := C0.1
  have hb := C0.2.1
  intro n
  induction n with
  | zero =>
    intro x0 x1 M H locs hP hS ls hl h
    exact nomatch h
  | succ n ih =>
    intro x0 x1 M H locs hP hS ls hl h
    have h : (if 3 ≤ x1 then
        some (0, M)
      else
        (gr x0 5 4).bind fun q102 =>
        (gi x0 5 5 M).bind fun x104 =>
        (ar q102 x104).bind fun q106 =>
        (gi x0 5 5 M).bind fun x108 =>
        (pi x0 5 5 ((x108 + 1) - (x108 + 1) / 3 * 3) M).bind fun M110 =>
        (ck q106 7).bind fun _ =>
        bd (f_Strand_isRunning q106 M110) fun x115 M113 =>
        if x115 = 0 then
          h_Machine_step_2 n x0 (x1 + 1) M113
        else
          (ck x0 5).bind fun _ =>
          (f_Machine_perform x0 q106 M113).bind fun M118 =>
          (ck x0 5).bind fun _ =>
          (f_Machine_countStep x0 M118).bind fun M121 =>
          some (1, M121)) = some (v, M') := h
    refine lv_iload_n hx hb d_Machine_step_2 rfl (lv_at hl 1 rfl) ?_
    refine lv_iconst (v := 3) hx hb d_Machine_step_3 ic_3 ?_
    refine lv_icmp_ge (tgt := 53) hx hb d_Machine_step_4 (by decide) (fun c101 => ?_) (fun c101 => ?_)
    · rw [if_pos c101] at h
      refine lv_iconst (v := 0) hx hb d_Machine_step_53 ic_0 ?_
      cases h
      exact r_zret C0 hP hS (Or.inl rfl) d_Machine_step_54
    · rw [if_neg c101] at h
      refine lv_aload_n hx hb d_Machine_step_7 rfl (lv_at hl 0 rfl) ?_
      obtain ⟨q102, e103, h⟩ := ob h
      refine k_gr C0 F_Machine_40 hP e103 d_Machine_step_8 ?_
      refine lv_aload_n hx hb d_Machine_step_11 rfl (lv_at hl 0 rfl) ?_
      obtain ⟨x104, e105, h⟩ := ob h
      refine k_gi C0 F_Machine_44 ik_5_5 hP e105 d_Machine_step_12 ?_
      obtain ⟨q106, e107, h⟩ := ob h
      refine k_ar C0 hP e107 d_Machine_step_15 ?_
      refine lv_astore_n (lv' := [(2, .ref (G.2.2 + q106)), (0, .ref (G.2.2 + x0)), (1, .int x1)]) hx hb d_Machine_step_16 rfl hl (by decide) rfl (fun ls hl => ?_)
      refine lv_aload_n hx hb d_Machine_step_17 rfl (lv_at hl 1 rfl) ?_
      refine lv_aload_n hx hb d_Machine_step_18 rfl (lv_at hl 1 rfl) ?_
      obtain ⟨x108, e109, h⟩ := ob h
      refine k_gi C0 F_Machine_44 ik_5_5 hP e109 d_Machine_step_19 ?_
      refine lv_iconst (v := 1) hx hb d_Machine_step_22 ic_1 ?_
      refine lv_iadd hx hb d_Machine_step_23 ?_
      refine lv_iconst (v := 3) hx hb d_Machine_step_24 ic_3 ?_
      refine lv_irem hx hb d_Machine_step_25 (by decide) ?_
      obtain ⟨M110, e111, h⟩ := ob h
      refine k_pi C0 F_Machine_44p ik_5_5 hP hS e111 d_Machine_step_26 (fun H locs hP hS => ?_)
      refine lv_aload_n hx hb d_Machine_step_29 rfl (lv_at hl 0 rfl) ?_
      obtain ⟨_, e112, h⟩ := ob h
      obtain ⟨x115, M113, e114, h⟩ := ob2 h
      refine k_cV C0 L_Machine_55 (As := []) (c_Strand_isRunning l G q106 e114) ⟨rfl, rfl⟩ ⟨Nat.le_of_ble_eq_true rfl, Nat.le_of_ble_eq_true rfl⟩ hP hS (ck_of e112) ly_Strand rfl hl.1 rfl (Nat.le_of_ble_eq_true rfl) d_Machine_step_30 ⟨Nat.zero_le _, Nat.zero_le _⟩ (fun H locs hP hS => ?_)
      refine lv_if_eq (tgt := 47) hx hb d_Machine_step_33 (by decide) (fun c116 => ?_) (fun c116 => ?_)
      · rw [if_pos c116] at h
        refine lv_iinc (v := (x1 + 1)) (lv' := [(1, .int (x1 + 1)), (2, .ref (G.2.2 + q106)), (0, .ref (G.2.2 + x0))]) hx hb d_Machine_step_47 hl (k := 2) rfl (congrArg (fun z => x1 + z) ic_1) (by decide) rfl (fun ls hl => ?_)
        refine lv_goto (tgt := 2) hx hb d_Machine_step_50 (by decide) ?_
        exact ih x0 (x1 + 1) hP hS (lv_sub hl [2, 0] rfl) h
      · rw [if_neg c116] at h
        refine lv_aload_n hx hb d_Machine_step_36 rfl (lv_at hl 1 rfl) ?_
        refine lv_aload_n hx hb d_Machine_step_37 rfl (lv_at hl 0 rfl) ?_
        obtain ⟨_, e117, h⟩ := ob h
        obtain ⟨M118, e119, h⟩ := ob h
        refine k_cVv C0 L_Machine_59 (As := [.ref (G.2.2 + q106)]) (c_Machine_perform l G x0 q106 e119) ⟨rfl, rfl⟩ ⟨Nat.le_of_ble_eq_true rfl, Nat.le_of_ble_eq_true rfl⟩ hP hS (ck_of e117) ly_Machine rfl hl.1 rfl (Nat.le_of_ble_eq_true rfl) d_Machine_step_38 ⟨Nat.zero_le _, Nat.zero_le _⟩ (fun H locs hP hS => ?_)
        refine lv_aload_n hx hb d_Machine_step_41 rfl (lv_at hl 1 rfl) ?_
        obtain ⟨_, e120, h⟩ := ob h
        obtain ⟨M121, e122, h⟩ := ob h
        refine k_cVv C0 L_Machine_63 (As := []) (c_Machine_countStep l G x0 e122) ⟨rfl, rfl⟩ ⟨Nat.le_of_ble_eq_true rfl, Nat.le_of_ble_eq_true rfl⟩ hP hS (ck_of e120) ly_Machine rfl hl.1 rfl (Nat.le_of_ble_eq_true rfl) d_Machine_step_42 ⟨Nat.zero_le _, Nat.zero_le _⟩ (fun H locs hP hS => ?_)
        refine lv_iconst (v := 1) hx hb d_Machine_step_45 ic_1 ?_
        cases h
        exact r_zret C0 hP hS (Or.inr rfl) d_Machine_step_46
set_option maxHeartbeats 4000000 in
set_option maxRecDepth 100000 in
theorem c_Machine_step (l : Launch) (G : fm_G) (x0 : Nat) {v : Int32} {M M' : fm_M} (h : f_Machine_step x0 M = some (v, M')) : kMet l y_Machine_step b_Machine_step 3 (some .boolean) rm_Machine_step G M [.ref (G.2.2 + x0)] (some (.int v)) M' := by
  refine r_met (by decide) rfl (Nat.le_of_ble_eq_true rfl) (fun p e s m args below meth c C0 hP ls hl => ?_)
  have hx := C0.1
  have hb := C0.2.1
  have hl : lv_has ls 3 [(0, .ref (G.2.2 + x0))] := hl
  have hS : va_S (fm_A G.2.2) s.heap s.heap [] := va_S.rf
  unfold f_Machine_step at h
  refine lv_iconst (v := 0) hx hb d_Machine_step_0 ic_0 ?_
  refine lv_istore_n (lv' := [(1, .int 0), (0, .ref (G.2.2 + x0))]) hx hb d_Machine_step_1 rfl hl (by decide) rfl (fun ls hl => ?_)
  exact w_Machine_step_2 C0 100000 x0 0 hP hS (lv_sub hl [1, 0] rfl) h
/-! AllocationProfilerModel.thrown -/
def rm_Mo_thrown : Room := { frames := 0, cells := 0, slots := 0, locals := 0 }
theorem d_Mo_thrown_0 : decode b_Mo_thrown 0 = .ok (.aload_n 0, 1) := by decide +kernel
theorem d_Mo_thrown_1 : decode b_Mo_thrown 1 = .ok (.getfield 122, 3) := by decide +kernel
theorem d_Mo_thrown_4 : decode b_Mo_thrown 4 = .ok (.ireturn, 1) := by decide +kernel
def f_Mo_thrown (x0 : Nat) (M : fm_M) : Option (Int32 × fm_M) :=
  (gi x0 10 0 M).bind fun x101 =>
  some (x101, M)
set_option maxHeartbeats 4000000 in
set_option maxRecDepth 100000 in
theorem c_Mo_thrown (l : Launch) (G : fm_G) (x0 : Nat) {v : Int32} {M M' : fm_M} (h : f_Mo_thrown x0 M = some (v, M')) : kMet l y_Mo_thrown b_Mo_thrown 1 (some .int) rm_Mo_thrown G M [.ref (G.2.2 + x0)] (some (.int v)) M' := by
  refine r_met (by decide) rfl (Nat.le_of_ble_eq_true rfl) (fun p e s m args below meth c C0 hP ls hl => ?_)
  have hx := C0.1
  have hb := C0.2.1
  have hl : lv_has ls 1 [(0, .ref (G.2.2 + x0))] := hl
  have hS : va_S (fm_A G.2.2) s.heap s.heap [] := va_S.rf
  unfold f_Mo_thrown at h
  refine lv_aload_n hx hb d_Mo_thrown_0 rfl (lv_at hl 0 rfl) ?_
  obtain ⟨x101, e102, h⟩ := ob h
  refine k_gi C0 F_Mo_122 ik_10_0 hP e102 d_Mo_thrown_1 ?_
  cases h
  exact r_iret C0 hP hS d_Mo_thrown_4
/-! AllocationProfilerModel.out -/
def rm_Mo_out : Room := { frames := 0, cells := 0, slots := 0, locals := 0 }
theorem d_Mo_out_0 : decode b_Mo_out 0 = .ok (.iload_n 0, 1) := by decide +kernel
theorem d_Mo_out_1 : decode b_Mo_out 1 = .ok (.ifCond .lt 8, 3) := by decide +kernel
theorem d_Mo_out_4 : decode b_Mo_out 4 = .ok (.iload_n 0, 1) := by decide +kernel
theorem d_Mo_out_5 : decode b_Mo_out 5 = .ok (.iload_n 1, 1) := by decide +kernel
theorem d_Mo_out_6 : decode b_Mo_out 6 = .ok (.if_icmp .lt 7, 3) := by decide +kernel
theorem d_Mo_out_9 : decode b_Mo_out 9 = .ok (.iconst 1, 1) := by decide +kernel
theorem d_Mo_out_10 : decode b_Mo_out 10 = .ok (.goto 4, 3) := by decide +kernel
theorem d_Mo_out_13 : decode b_Mo_out 13 = .ok (.iconst 0, 1) := by decide +kernel
theorem d_Mo_out_14 : decode b_Mo_out 14 = .ok (.ireturn, 1) := by decide +kernel
def j_Mo_out_9  (M : fm_M) : Option (Int32 × fm_M) :=
  some (1, M)
def f_Mo_out (x0 : Int32) (x1 : Int32) (M : fm_M) : Option (Int32 × fm_M) :=
  if x0 < 0 then
    j_Mo_out_9 M
  else
    if x0 < x1 then
      some (0, M)
    else
      j_Mo_out_9 M
set_option maxHeartbeats 4000000 in
set_option maxRecDepth 100000 in
theorem w_Mo_out_9 {p : Program} {l : Launch} {e : Env} {s : State} {m : MethodId} {args : Array Value} {below : List Frame} {meth : Method} {c : Code} {G : fm_G} (C0 : fm_C p s m args meth c G (.code y_Mo_out b_Mo_out 2 (some .boolean)) "AllocationProfilerModel" b_Mo_out 2 (some .boolean)) {v : Int32} {M' : fm_M}  {M : fm_M} {H : Heap} {locs : List Loc} (hP : kP G M H) (hS : kS G s H locs) {ls : Array Slot} (hl : lv_has ls 2 []) (h : j_Mo_out_9  M = some (v, M')) : W p l e rm_Mo_out s m args below meth c H locs 0 0 (MQ below (fm_Q G 212 shF (some (.int v)) M') args s 0 0 (fm_A G.2.2)) (F0 m 9 ls []) := by
  have hx := C0.1
  have hb := C0.2.1
  unfold j_Mo_out_9 at h
  refine lv_iconst (v := 1) hx hb d_Mo_out_9 ic_1 ?_
  refine lv_goto (tgt := 14) hx hb d_Mo_out_10 (by decide) ?_
  cases h
  exact r_zret C0 hP hS (Or.inr rfl) d_Mo_out_14
set_option maxHeartbeats 4000000 in
set_option maxRecDepth 100000 in
theorem c_Mo_out (l : Launch) (G : fm_G) (x0 : Int32) (x1 : Int32) {v : Int32} {M M' : fm_M} (h : f_Mo_out x0 x1 M = some (v, M')) : kMet l y_Mo_out b_Mo_out 2 (some .boolean) rm_Mo_out G M [.int x0, .int x1] (some (.int v)) M' := by
  refine r_met (by decide) rfl (Nat.le_of_ble_eq_true rfl) (fun p e s m args below meth c C0 hP ls hl => ?_)
  have hx := C0.1
  have hb := C0.2.1
  have hl : lv_has ls 2 [(0, .int x0), (1, .int x1)] := hl
  have hS : va_S (fm_A G.2.2) s.heap s.heap [] := va_S.rf
  unfold f_Mo_out at h
  refine lv_iload_n hx hb d_Mo_out_0 rfl (lv_at hl 0 rfl) ?_
  refine lv_if_lt (tgt := 9) hx hb d_Mo_out_1 (by decide) (fun c101 => ?_) (fun c101 => ?_)
  · rw [if_pos c101] at h
    exact w_Mo_out_9 C0 hP hS (lv_sub hl [] rfl) h
  · rw [if_neg c101] at h
    refine lv_iload_n hx hb d_Mo_out_4 rfl (lv_at hl 0 rfl) ?_
    refine lv_iload_n hx hb d_Mo_out_5 rfl (lv_at hl 1 rfl) ?_
    refine lv_icmp_lt (tgt := 13) hx hb d_Mo_out_6 (by decide) (fun c102 => ?_) (fun c102 => ?_)
    · rw [if_pos c102] at h
      refine lv_iconst (v := 0) hx hb d_Mo_out_13 ic_0 ?_
      cases h
      exact r_zret C0 hP hS (Or.inl rfl) d_Mo_out_14
    · rw [if_neg c102] at h
      exact w_Mo_out_9 C0 hP hS (lv_sub hl [] rfl) h
/-! AllocationProfilerModel.fail -/
def rm_Mo_fail : Room := { frames := 0, cells := 0, slots := 0, locals := 0 }
theorem d_Mo_fail_0 : decode b_Mo_fail 0 = .ok (.aload_n 0, 1) := by decide +kernel
theorem d_Mo_fail_1 : decode b_Mo_fail 1 = .ok (.iload_n 1, 1) := by decide +kernel
theorem d_Mo_fail_2 : decode b_Mo_fail 2 = .ok (.putfield 122, 3) := by decide +kernel
theorem d_Mo_fail_5 : decode b_Mo_fail 5 = .ok (.iconst 0, 1) := by decide +kernel
theorem d_Mo_fail_6 : decode b_Mo_fail 6 = .ok (.ireturn, 1) := by decide +kernel
def f_Mo_fail (x0 : Nat) (x1 : Int32) (M : fm_M) : Option (Int32 × fm_M) :=
  (pi x0 10 0 x1 M).bind fun M101 =>
  some (0, M101)
set_option maxHeartbeats 4000000 in
set_option maxRecDepth 100000 in
theorem c_Mo_fail (l : Launch) (G : fm_G) (x0 : Nat) (x1 : Int32) {v : Int32} {M M' : fm_M} (h : f_Mo_fail x0 x1 M = some (v, M')) : kMet l y_Mo_fail b_Mo_fail 2 (some .int) rm_Mo_fail G M [.ref (G.2.2 + x0), .int x1] (some (.int v)) M' := by
  refine r_met (by decide) rfl (Nat.le_of_ble_eq_true rfl) (fun p e s m args below meth c C0 hP ls hl => ?_)
  have hx := C0.1
  have hb := C0.2.1
  have hl : lv_has ls 2 [(0, .ref (G.2.2 + x0)), (1, .int x1)] := hl
  have hS : va_S (fm_A G.2.2) s.heap s.heap [] := va_S.rf
  unfold f_Mo_fail at h
  refine lv_aload_n hx hb d_Mo_fail_0 rfl (lv_at hl 0 rfl) ?_
  refine lv_iload_n hx hb d_Mo_fail_1 rfl (lv_at hl 1 rfl) ?_
  obtain ⟨M101, e102, h⟩ := ob h
  refine k_pi C0 F_Mo_122p ik_10_0 hP hS e102 d_Mo_fail_2 (fun H locs hP hS => ?_)
  refine lv_iconst (v := 0) hx hb d_Mo_fail_5 ic_0 ?_
  cases h
  exact r_iret C0 hP hS d_Mo_fail_6
/-! AllocationProfilerModel.upTo -/
def rm_Mo_upTo : Room := { frames := 0, cells := 0, slots := 0, locals := 0 }
theorem d_Mo_upTo_0 : decode b_Mo_upTo 0 = .ok (.iload_n 0, 1) := by decide +kernel
theorem d_Mo_upTo_1 : decode b_Mo_upTo 1 = .ok (.iload_n 1, 1) := by decide +kernel
theorem d_Mo_upTo_2 : decode b_Mo_upTo 2 = .ok (.irem, 1) := by decide +kernel
theorem d_Mo_upTo_3 : decode b_Mo_upTo 3 = .ok (.istore_n 2, 1) := by decide +kernel
theorem d_Mo_upTo_4 : decode b_Mo_upTo 4 = .ok (.iload_n 2, 1) := by decide +kernel
theorem d_Mo_upTo_5 : decode b_Mo_upTo 5 = .ok (.ifCond .ne 7, 3) := by decide +kernel
theorem d_Mo_upTo_8 : decode b_Mo_upTo 8 = .ok (.iload_n 0, 1) := by decide +kernel
theorem d_Mo_upTo_9 : decode b_Mo_upTo 9 = .ok (.goto 8, 3) := by decide +kernel
theorem d_Mo_upTo_12 : decode b_Mo_upTo 12 = .ok (.iload_n 0, 1) := by decide +kernel
theorem d_Mo_upTo_13 : decode b_Mo_upTo 13 = .ok (.iload_n 1, 1) := by decide +kernel
theorem d_Mo_upTo_14 : decode b_Mo_upTo 14 = .ok (.iadd, 1) := by decide +kernel
theorem d_Mo_upTo_15 : decode b_Mo_upTo 15 = .ok (.iload_n 2, 1) := by decide +kernel
theorem d_Mo_upTo_16 : decode b_Mo_upTo 16 = .ok (.isub, 1) := by decide +kernel
theorem d_Mo_upTo_17 : decode b_Mo_upTo 17 = .ok (.ireturn, 1) := by decide +kernel
def f_Mo_upTo (x0 : Int32) (x1 : Int32) (M : fm_M) : Option (Int32 × fm_M) :=
  if x1 = 0 then none else
  if (x0 - x0 / x1 * x1) = 0 then
    some (x0, M)
  else
    some (((x0 + x1) - (x0 - x0 / x1 * x1)), M)
set_option maxHeartbeats 4000000 in
set_option maxRecDepth 100000 in
theorem c_Mo_upTo (l : Launch) (G : fm_G) (x0 : Int32) (x1 : Int32) {v : Int32} {M M' : fm_M} (h : f_Mo_upTo x0 x1 M = some (v, M')) : kMet l y_Mo_upTo b_Mo_upTo 3 (some .int) rm_Mo_upTo G M [.int x0, .int x1] (some (.int v)) M' := by
  refine r_met (by decide) rfl (Nat.le_of_ble_eq_true rfl) (fun p e s m args below meth c C0 hP ls hl => ?_)
  have hx := C0.1
  have hb := C0.2.1
  have hl : lv_has ls 3 [(0, .int x0), (1, .int x1)] := hl
  have hS : va_S (fm_A G.2.2) s.heap s.heap [] := va_S.rf
  unfold f_Mo_upTo at h
  refine lv_iload_n hx hb d_Mo_upTo_0 rfl (lv_at hl 0 rfl) ?_
  refine lv_iload_n hx hb d_Mo_upTo_1 rfl (lv_at hl 1 rfl) ?_
  by_cases c101 : x1 = 0
  · rw [if_pos c101] at h; cases h
  rw [if_neg c101] at h
  refine lv_irem hx hb d_Mo_upTo_2 c101 ?_
  refine lv_istore_n (lv' := [(2, .int (x0 - x0 / x1 * x1)), (0, .int x0), (1, .int x1)]) hx hb d_Mo_upTo_3 rfl hl (by decide) rfl (fun ls hl => ?_)
  refine lv_iload_n hx hb d_Mo_upTo_4 rfl (lv_at hl 0 rfl) ?_
  refine lv_if_ne (tgt := 12) hx hb d_Mo_upTo_5 (by decide) (fun c102 => ?_) (fun c102 => ?_)
  · rw [if_neg c102] at h
    refine lv_iload_n hx hb d_Mo_upTo_12 rfl (lv_at hl 1 rfl) ?_
    refine lv_iload_n hx hb d_Mo_upTo_13 rfl (lv_at hl 2 rfl) ?_
    refine lv_iadd hx hb d_Mo_upTo_14 ?_
    refine lv_iload_n hx hb d_Mo_upTo_15 rfl (lv_at hl 0 rfl) ?_
    refine lv_isub hx hb d_Mo_upTo_16 ?_
    cases h
    exact r_iret C0 hP hS d_Mo_upTo_17
  · rw [if_pos c102] at h
    refine lv_iload_n hx hb d_Mo_upTo_8 rfl (lv_at hl 1 rfl) ?_
    refine lv_goto (tgt := 17) hx hb d_Mo_upTo_9 (by decide) ?_
    cases h
    exact r_iret C0 hP hS d_Mo_upTo_17
/-! AllocationProfilerModel.type -/
def rm_Mo_type : Room := { frames := 1, cells := 0, slots := 0, locals := 22 }
theorem d_Mo_type_0 : decode b_Mo_type 0 = .ok (.iload_n 1, 1) := by decide +kernel
theorem d_Mo_type_1 : decode b_Mo_type 1 = .ok (.iconst (-1), 1) := by decide +kernel
theorem d_Mo_type_2 : decode b_Mo_type 2 = .ok (.if_icmp .lt 49, 3) := by decide +kernel
theorem d_Mo_type_5 : decode b_Mo_type 5 = .ok (.iload_n 1, 1) := by decide +kernel
theorem d_Mo_type_6 : decode b_Mo_type 6 = .ok (.aload_n 0, 1) := by decide +kernel
theorem d_Mo_type_7 : decode b_Mo_type 7 = .ok (.getfield 125, 3) := by decide +kernel
theorem d_Mo_type_10 : decode b_Mo_type 10 = .ok (.if_icmp .ge 41, 3) := by decide +kernel
theorem d_Mo_type_13 : decode b_Mo_type 13 = .ok (.iload_n 2, 1) := by decide +kernel
theorem d_Mo_type_14 : decode b_Mo_type 14 = .ok (.iconst 4, 1) := by decide +kernel
theorem d_Mo_type_15 : decode b_Mo_type 15 = .ok (.invokestatic 128, 3) := by decide +kernel
theorem d_Mo_type_18 : decode b_Mo_type 18 = .ok (.ifCond .ne 33, 3) := by decide +kernel
theorem d_Mo_type_21 : decode b_Mo_type 21 = .ok (.iload_n 3, 1) := by decide +kernel
theorem d_Mo_type_22 : decode b_Mo_type 22 = .ok (.iconst 4, 1) := by decide +kernel
theorem d_Mo_type_23 : decode b_Mo_type 23 = .ok (.invokestatic 128, 3) := by decide +kernel
theorem d_Mo_type_26 : decode b_Mo_type 26 = .ok (.ifCond .ne 25, 3) := by decide +kernel
theorem d_Mo_type_29 : decode b_Mo_type 29 = .ok (.iload 4, 2) := by decide +kernel
theorem d_Mo_type_31 : decode b_Mo_type 31 = .ok (.iconst 4, 1) := by decide +kernel
theorem d_Mo_type_32 : decode b_Mo_type 32 = .ok (.invokestatic 128, 3) := by decide +kernel
theorem d_Mo_type_35 : decode b_Mo_type 35 = .ok (.ifCond .ne 16, 3) := by decide +kernel
theorem d_Mo_type_38 : decode b_Mo_type 38 = .ok (.iload 5, 2) := by decide +kernel
theorem d_Mo_type_40 : decode b_Mo_type 40 = .ok (.iconst 4, 1) := by decide +kernel
theorem d_Mo_type_41 : decode b_Mo_type 41 = .ok (.invokestatic 128, 3) := by decide +kernel
theorem d_Mo_type_44 : decode b_Mo_type 44 = .ok (.ifCond .ne 7, 3) := by decide +kernel
theorem d_Mo_type_47 : decode b_Mo_type 47 = .ok (.iconst 1, 1) := by decide +kernel
theorem d_Mo_type_48 : decode b_Mo_type 48 = .ok (.goto 4, 3) := by decide +kernel
theorem d_Mo_type_51 : decode b_Mo_type 51 = .ok (.iconst 0, 1) := by decide +kernel
theorem d_Mo_type_52 : decode b_Mo_type 52 = .ok (.istore 6, 2) := by decide +kernel
theorem d_Mo_type_54 : decode b_Mo_type 54 = .ok (.aload_n 0, 1) := by decide +kernel
theorem d_Mo_type_55 : decode b_Mo_type 55 = .ok (.iload 6, 2) := by decide +kernel
theorem d_Mo_type_57 : decode b_Mo_type 57 = .ok (.ifCond .ne 7, 3) := by decide +kernel
theorem d_Mo_type_60 : decode b_Mo_type 60 = .ok (.iconst 1, 1) := by decide +kernel
theorem d_Mo_type_61 : decode b_Mo_type 61 = .ok (.goto 24, 3) := by decide +kernel
theorem d_Mo_type_64 : decode b_Mo_type 64 = .ok (.aload_n 0, 1) := by decide +kernel
theorem d_Mo_type_65 : decode b_Mo_type 65 = .ok (.getfield 125, 3) := by decide +kernel
theorem d_Mo_type_68 : decode b_Mo_type 68 = .ok (.bipush 6, 2) := by decide +kernel
theorem d_Mo_type_70 : decode b_Mo_type 70 = .ok (.if_icmp .eq 10, 3) := by decide +kernel
theorem d_Mo_type_73 : decode b_Mo_type 73 = .ok (.aload_n 0, 1) := by decide +kernel
theorem d_Mo_type_74 : decode b_Mo_type 74 = .ok (.getfield 132, 3) := by decide +kernel
theorem d_Mo_type_77 : decode b_Mo_type 77 = .ok (.ifCond .eq 7, 3) := by decide +kernel
theorem d_Mo_type_80 : decode b_Mo_type 80 = .ok (.iconst 2, 1) := by decide +kernel
theorem d_Mo_type_81 : decode b_Mo_type 81 = .ok (.goto 4, 3) := by decide +kernel
theorem d_Mo_type_84 : decode b_Mo_type 84 = .ok (.iconst 0, 1) := by decide +kernel
theorem d_Mo_type_85 : decode b_Mo_type 85 = .ok (.putfield 122, 3) := by decide +kernel
theorem d_Mo_type_88 : decode b_Mo_type 88 = .ok (.aload_n 0, 1) := by decide +kernel
theorem d_Mo_type_89 : decode b_Mo_type 89 = .ok (.getfield 122, 3) := by decide +kernel
theorem d_Mo_type_92 : decode b_Mo_type 92 = .ok (.ifCond .le 5, 3) := by decide +kernel
theorem d_Mo_type_95 : decode b_Mo_type 95 = .ok (.iconst 0, 1) := by decide +kernel
theorem d_Mo_type_96 : decode b_Mo_type 96 = .ok (.ireturn, 1) := by decide +kernel
theorem d_Mo_type_97 : decode b_Mo_type 97 = .ok (.iload_n 1, 1) := by decide +kernel
theorem d_Mo_type_98 : decode b_Mo_type 98 = .ok (.ifCond .ge 8, 3) := by decide +kernel
theorem d_Mo_type_101 : decode b_Mo_type 101 = .ok (.bipush 12, 2) := by decide +kernel
theorem d_Mo_type_103 : decode b_Mo_type 103 = .ok (.goto 9, 3) := by decide +kernel
theorem d_Mo_type_106 : decode b_Mo_type 106 = .ok (.aload_n 0, 1) := by decide +kernel
theorem d_Mo_type_107 : decode b_Mo_type 107 = .ok (.getfield 7, 3) := by decide +kernel
theorem d_Mo_type_110 : decode b_Mo_type 110 = .ok (.iload_n 1, 1) := by decide +kernel
theorem d_Mo_type_111 : decode b_Mo_type 111 = .ok (.iaload, 1) := by decide +kernel
theorem d_Mo_type_112 : decode b_Mo_type 112 = .ok (.istore 7, 2) := by decide +kernel
theorem d_Mo_type_114 : decode b_Mo_type 114 = .ok (.iload_n 2, 1) := by decide +kernel
theorem d_Mo_type_115 : decode b_Mo_type 115 = .ok (.ifCond .le 18, 3) := by decide +kernel
theorem d_Mo_type_118 : decode b_Mo_type 118 = .ok (.iload 7, 2) := by decide +kernel
theorem d_Mo_type_120 : decode b_Mo_type 120 = .ok (.bipush 8, 2) := by decide +kernel
theorem d_Mo_type_122 : decode b_Mo_type 122 = .ok (.invokestatic 136, 3) := by decide +kernel
theorem d_Mo_type_125 : decode b_Mo_type 125 = .ok (.bipush 8, 2) := by decide +kernel
theorem d_Mo_type_127 : decode b_Mo_type 127 = .ok (.iload_n 2, 1) := by decide +kernel
theorem d_Mo_type_128 : decode b_Mo_type 128 = .ok (.imul, 1) := by decide +kernel
theorem d_Mo_type_129 : decode b_Mo_type 129 = .ok (.iadd, 1) := by decide +kernel
theorem d_Mo_type_130 : decode b_Mo_type 130 = .ok (.goto 5, 3) := by decide +kernel
theorem d_Mo_type_133 : decode b_Mo_type 133 = .ok (.iload 7, 2) := by decide +kernel
theorem d_Mo_type_135 : decode b_Mo_type 135 = .ok (.istore 7, 2) := by decide +kernel
theorem d_Mo_type_137 : decode b_Mo_type 137 = .ok (.iload_n 3, 1) := by decide +kernel
theorem d_Mo_type_138 : decode b_Mo_type 138 = .ok (.ifCond .le 16, 3) := by decide +kernel
theorem d_Mo_type_141 : decode b_Mo_type 141 = .ok (.iload 7, 2) := by decide +kernel
theorem d_Mo_type_143 : decode b_Mo_type 143 = .ok (.iconst 4, 1) := by decide +kernel
theorem d_Mo_type_144 : decode b_Mo_type 144 = .ok (.invokestatic 136, 3) := by decide +kernel
theorem d_Mo_type_147 : decode b_Mo_type 147 = .ok (.iconst 4, 1) := by decide +kernel
theorem d_Mo_type_148 : decode b_Mo_type 148 = .ok (.iload_n 3, 1) := by decide +kernel
theorem d_Mo_type_149 : decode b_Mo_type 149 = .ok (.imul, 1) := by decide +kernel
theorem d_Mo_type_150 : decode b_Mo_type 150 = .ok (.iadd, 1) := by decide +kernel
theorem d_Mo_type_151 : decode b_Mo_type 151 = .ok (.goto 5, 3) := by decide +kernel
theorem d_Mo_type_154 : decode b_Mo_type 154 = .ok (.iload 7, 2) := by decide +kernel
theorem d_Mo_type_156 : decode b_Mo_type 156 = .ok (.istore 7, 2) := by decide +kernel
theorem d_Mo_type_158 : decode b_Mo_type 158 = .ok (.iload 4, 2) := by decide +kernel
theorem d_Mo_type_160 : decode b_Mo_type 160 = .ok (.ifCond .le 17, 3) := by decide +kernel
theorem d_Mo_type_163 : decode b_Mo_type 163 = .ok (.iload 7, 2) := by decide +kernel
theorem d_Mo_type_165 : decode b_Mo_type 165 = .ok (.iconst 2, 1) := by decide +kernel
theorem d_Mo_type_166 : decode b_Mo_type 166 = .ok (.invokestatic 136, 3) := by decide +kernel
theorem d_Mo_type_169 : decode b_Mo_type 169 = .ok (.iconst 2, 1) := by decide +kernel
theorem d_Mo_type_170 : decode b_Mo_type 170 = .ok (.iload 4, 2) := by decide +kernel
theorem d_Mo_type_172 : decode b_Mo_type 172 = .ok (.imul, 1) := by decide +kernel
theorem d_Mo_type_173 : decode b_Mo_type 173 = .ok (.iadd, 1) := by decide +kernel
theorem d_Mo_type_174 : decode b_Mo_type 174 = .ok (.goto 5, 3) := by decide +kernel
theorem d_Mo_type_177 : decode b_Mo_type 177 = .ok (.iload 7, 2) := by decide +kernel
theorem d_Mo_type_179 : decode b_Mo_type 179 = .ok (.istore 7, 2) := by decide +kernel
theorem d_Mo_type_181 : decode b_Mo_type 181 = .ok (.aload_n 0, 1) := by decide +kernel
theorem d_Mo_type_182 : decode b_Mo_type 182 = .ok (.getfield 7, 3) := by decide +kernel
theorem d_Mo_type_185 : decode b_Mo_type 185 = .ok (.aload_n 0, 1) := by decide +kernel
theorem d_Mo_type_186 : decode b_Mo_type 186 = .ok (.getfield 125, 3) := by decide +kernel
theorem d_Mo_type_189 : decode b_Mo_type 189 = .ok (.iload 7, 2) := by decide +kernel
theorem d_Mo_type_191 : decode b_Mo_type 191 = .ok (.iload 5, 2) := by decide +kernel
theorem d_Mo_type_193 : decode b_Mo_type 193 = .ok (.iadd, 1) := by decide +kernel
theorem d_Mo_type_194 : decode b_Mo_type 194 = .ok (.iastore, 1) := by decide +kernel
theorem d_Mo_type_195 : decode b_Mo_type 195 = .ok (.aload_n 0, 1) := by decide +kernel
theorem d_Mo_type_196 : decode b_Mo_type 196 = .ok (.getfield 13, 3) := by decide +kernel
theorem d_Mo_type_199 : decode b_Mo_type 199 = .ok (.aload_n 0, 1) := by decide +kernel
theorem d_Mo_type_200 : decode b_Mo_type 200 = .ok (.getfield 125, 3) := by decide +kernel
theorem d_Mo_type_203 : decode b_Mo_type 203 = .ok (.iload 7, 2) := by decide +kernel
theorem d_Mo_type_205 : decode b_Mo_type 205 = .ok (.iload 5, 2) := by decide +kernel
theorem d_Mo_type_207 : decode b_Mo_type 207 = .ok (.iadd, 1) := by decide +kernel
theorem d_Mo_type_208 : decode b_Mo_type 208 = .ok (.bipush 8, 2) := by decide +kernel
theorem d_Mo_type_210 : decode b_Mo_type 210 = .ok (.invokestatic 136, 3) := by decide +kernel
theorem d_Mo_type_213 : decode b_Mo_type 213 = .ok (.iastore, 1) := by decide +kernel
theorem d_Mo_type_214 : decode b_Mo_type 214 = .ok (.aload_n 0, 1) := by decide +kernel
theorem d_Mo_type_215 : decode b_Mo_type 215 = .ok (.dup, 1) := by decide +kernel
theorem d_Mo_type_216 : decode b_Mo_type 216 = .ok (.getfield 125, 3) := by decide +kernel
theorem d_Mo_type_219 : decode b_Mo_type 219 = .ok (.iconst 1, 1) := by decide +kernel
theorem d_Mo_type_220 : decode b_Mo_type 220 = .ok (.iadd, 1) := by decide +kernel
theorem d_Mo_type_221 : decode b_Mo_type 221 = .ok (.putfield 125, 3) := by decide +kernel
theorem d_Mo_type_224 : decode b_Mo_type 224 = .ok (.aload_n 0, 1) := by decide +kernel
theorem d_Mo_type_225 : decode b_Mo_type 225 = .ok (.getfield 125, 3) := by decide +kernel
theorem d_Mo_type_228 : decode b_Mo_type 228 = .ok (.iconst 1, 1) := by decide +kernel
theorem d_Mo_type_229 : decode b_Mo_type 229 = .ok (.isub, 1) := by decide +kernel
theorem d_Mo_type_230 : decode b_Mo_type 230 = .ok (.ireturn, 1) := by decide +kernel
def j_Mo_type_179 (x0 : Nat) (x5 : Int32) (s0 : Int32) (M : fm_M) : Option (Int32 × fm_M) :=
  (gr x0 10 2).bind fun q101 =>
  (gi x0 10 1 M).bind fun x103 =>
  (si q101 x103 (s0 + x5) M).bind fun M105 =>
  (gr x0 10 3).bind fun q107 =>
  (gi x0 10 1 M105).bind fun x109 =>
  bd (f_Mo_upTo (s0 + x5) 8 M105) fun x113 M111 =>
  (si q107 x109 x113 M111).bind fun M114 =>
  (gi x0 10 1 M114).bind fun x116 =>
  (pi x0 10 1 (x116 + 1) M114).bind fun M118 =>
  (gi x0 10 1 M118).bind fun x120 =>
  some ((x120 - 1), M118)
def j_Mo_type_156 (x0 : Nat) (x4 : Int32) (x5 : Int32) (s0 : Int32) (M : fm_M) : Option (Int32 × fm_M) :=
  if x4 ≤ 0 then
    j_Mo_type_179 x0 x5 s0 M
  else
    bd (f_Mo_upTo s0 2 M) fun x125 M123 =>
    j_Mo_type_179 x0 x5 (x125 + (2 * x4)) M123
def j_Mo_type_135 (x0 : Nat) (x3 : Int32) (x4 : Int32) (x5 : Int32) (s0 : Int32) (M : fm_M) : Option (Int32 × fm_M) :=
  if x3 ≤ 0 then
    j_Mo_type_156 x0 x4 x5 s0 M
  else
    bd (f_Mo_upTo s0 4 M) fun x129 M127 =>
    j_Mo_type_156 x0 x4 x5 (x129 + (4 * x3)) M127
def j_Mo_type_112 (x0 : Nat) (x2 : Int32) (x3 : Int32) (x4 : Int32) (x5 : Int32) (s0 : Int32) (M : fm_M) : Option (Int32 × fm_M) :=
  if x2 ≤ 0 then
    j_Mo_type_135 x0 x3 x4 x5 s0 M
  else
    bd (f_Mo_upTo s0 8 M) fun x133 M131 =>
    j_Mo_type_135 x0 x3 x4 x5 (x133 + (8 * x2)) M131
def j_Mo_type_85 (x0 : Nat) (x1 : Int32) (x2 : Int32) (x3 : Int32) (x4 : Int32) (x5 : Int32) (s0 : Nat) (s1 : Int32) (M : fm_M) : Option (Int32 × fm_M) :=
  (pi s0 10 0 s1 M).bind fun M134 =>
  (gi x0 10 0 M134).bind fun x136 =>
  if x136 ≤ 0 then
    if 0 ≤ x1 then
      (gr x0 10 2).bind fun q140 =>
      (ai q140 x1 M134).bind fun x142 =>
      j_Mo_type_112 x0 x2 x3 x4 x5 x142 M134
    else
      j_Mo_type_112 x0 x2 x3 x4 x5 12 M134
  else
    some (0, M134)
def j_Mo_type_80 (x0 : Nat) (x1 : Int32) (x2 : Int32) (x3 : Int32) (x4 : Int32) (x5 : Int32) (s0 : Nat) (M : fm_M) : Option (Int32 × fm_M) :=
  j_Mo_type_85 x0 x1 x2 x3 x4 x5 s0 2 M
def j_Mo_type_52 (x0 : Nat) (x1 : Int32) (x2 : Int32) (x3 : Int32) (x4 : Int32) (x5 : Int32) (s0 : Int32) (M : fm_M) : Option (Int32 × fm_M) :=
  if s0 = 0 then
    j_Mo_type_85 x0 x1 x2 x3 x4 x5 x0 1 M
  else
    (gi x0 10 1 M).bind fun x145 =>
    if x145 = 6 then
      j_Mo_type_80 x0 x1 x2 x3 x4 x5 x0 M
    else
      (gi x0 10 11 M).bind fun x148 =>
      if x148 = 0 then
        j_Mo_type_85 x0 x1 x2 x3 x4 x5 x0 0 M
      else
        j_Mo_type_80 x0 x1 x2 x3 x4 x5 x0 M
def j_Mo_type_51 (x0 : Nat) (x1 : Int32) (x2 : Int32) (x3 : Int32) (x4 : Int32) (x5 : Int32) (M : fm_M) : Option (Int32 × fm_M) :=
  j_Mo_type_52 x0 x1 x2 x3 x4 x5 0 M
def f_Mo_type (x0 : Nat) (x1 : Int32) (x2 : Int32) (x3 : Int32) (x4 : Int32) (x5 : Int32) (M : fm_M) : Option (Int32 × fm_M) :=
  if x1 < (-1) then
    j_Mo_type_51 x0 x1 x2 x3 x4 x5 M
  else
    (gi x0 10 1 M).bind fun x152 =>
    if x152 ≤ x1 then
      j_Mo_type_51 x0 x1 x2 x3 x4 x5 M
    else
      bd (f_Mo_out x2 4 M) fun x157 M155 =>
      if x157 = 0 then
        bd (f_Mo_out x3 4 M155) fun x161 M159 =>
        if x161 = 0 then
          bd (f_Mo_out x4 4 M159) fun x165 M163 =>
          if x165 = 0 then
            bd (f_Mo_out x5 4 M163) fun x169 M167 =>
            if x169 = 0 then
              j_Mo_type_52 x0 x1 x2 x3 x4 x5 1 M167
            else
              j_Mo_type_51 x0 x1 x2 x3 x4 x5 M167
          else
            j_Mo_type_51 x0 x1 x2 x3 x4 x5 M163
        else
          j_Mo_type_51 x0 x1 x2 x3 x4 x5 M159
      else
        j_Mo_type_51 x0 x1 x2 x3 x4 x5 M155
set_option maxHeartbeats 4000000 in
set_option maxRecDepth 100000 in
theorem w_Mo_type_179 {p : Program} {l : Launch} {e : Env} {s : State} {m : MethodId} {args : Array Value} {below : List Frame} {meth : Method} {c : Code} {G : fm_G} (C0 : fm_C p s m args meth c G (.code y_Mo_type b_Mo_type 8 (some .int)) "AllocationProfilerModel" b_Mo_type 8 (some .int)) {v : Int32} {M' : fm_M} (x0 : Nat) (x5 : Int32) (s0 : Int32) {M : fm_M} {H : Heap} {locs : List Loc} (hP : kP G M H) (hS : kS G s H locs) {ls : Array Slot} (hl : lv_has ls 8 [(0, .ref (G.2.2 + x0)), (5, .int x5)]) (h : j_Mo_type_179 x0 x5 s0 M = some (v, M')) : W p l e rm_Mo_type s m args below meth c H locs 0 0 (MQ below (fm_Q G 212 shF (some (.int v)) M') args s 0 0 (fm_A G.2.2)) (F0 m 179 ls [.int s0]) := by
  have hx := C0.1
  have hb := C0.2.1
  unfold j_Mo_type_179 at h
  refine lv_istore (lv' := [(7, .int s0), (0, .ref (G.2.2 + x0)), (5, .int x5)]) hx hb d_Mo_type_179 hl (by decide) rfl (fun ls hl => ?_)
  refine lv_aload_n hx hb d_Mo_type_181 rfl (lv_at hl 1 rfl) ?_
  obtain ⟨q101, e102, h⟩ := ob h
  refine k_gr C0 F_Mo_7 hP e102 d_Mo_type_182 ?_
  refine lv_aload_n hx hb d_Mo_type_185 rfl (lv_at hl 1 rfl) ?_
  obtain ⟨x103, e104, h⟩ := ob h
  refine k_gi C0 F_Mo_125 ik_10_1 hP e104 d_Mo_type_186 ?_
  refine lv_iload hx hb d_Mo_type_189 (lv_at hl 0 rfl) ?_
  refine lv_iload hx hb d_Mo_type_191 (lv_at hl 2 rfl) ?_
  refine lv_iadd hx hb d_Mo_type_193 ?_
  obtain ⟨M105, e106, h⟩ := ob h
  refine k_si C0 hP hS e106 d_Mo_type_194 (fun H locs hP hS => ?_)
  refine lv_aload_n hx hb d_Mo_type_195 rfl (lv_at hl 1 rfl) ?_
  obtain ⟨q107, e108, h⟩ := ob h
  refine k_gr C0 F_Mo_13 hP e108 d_Mo_type_196 ?_
  refine lv_aload_n hx hb d_Mo_type_199 rfl (lv_at hl 1 rfl) ?_
  obtain ⟨x109, e110, h⟩ := ob h
  refine k_gi C0 F_Mo_125 ik_10_1 hP e110 d_Mo_type_200 ?_
  refine lv_iload hx hb d_Mo_type_203 (lv_at hl 0 rfl) ?_
  refine lv_iload hx hb d_Mo_type_205 (lv_at hl 2 rfl) ?_
  refine lv_iadd hx hb d_Mo_type_207 ?_
  refine lv_bipush (v := 8) hx hb d_Mo_type_208 bp_8 ?_
  obtain ⟨x113, M111, e112, h⟩ := ob2 h
  refine k_cS C0 L_Mo_136 (As := [.int (s0 + x5), .int 8]) (c_Mo_upTo l G (s0 + x5) 8 e112) ⟨rfl, rfl⟩ ⟨Nat.le_of_ble_eq_true rfl, Nat.le_of_ble_eq_true rfl⟩ hP hS rfl hl.1 rfl (Nat.le_of_ble_eq_true rfl) d_Mo_type_210 ⟨Nat.zero_le _, Nat.zero_le _⟩ (fun H locs hP hS => ?_)
  obtain ⟨M114, e115, h⟩ := ob h
  refine k_si C0 hP hS e115 d_Mo_type_213 (fun H locs hP hS => ?_)
  refine lv_aload_n hx hb d_Mo_type_214 rfl (lv_at hl 1 rfl) ?_
  refine lv_dup hx hb d_Mo_type_215 rfl ?_
  obtain ⟨x116, e117, h⟩ := ob h
  refine k_gi C0 F_Mo_125 ik_10_1 hP e117 d_Mo_type_216 ?_
  refine lv_iconst (v := 1) hx hb d_Mo_type_219 ic_1 ?_
  refine lv_iadd hx hb d_Mo_type_220 ?_
  obtain ⟨M118, e119, h⟩ := ob h
  refine k_pi C0 F_Mo_125p ik_10_1 hP hS e119 d_Mo_type_221 (fun H locs hP hS => ?_)
  refine lv_aload_n hx hb d_Mo_type_224 rfl (lv_at hl 1 rfl) ?_
  obtain ⟨x120, e121, h⟩ := ob h
  refine k_gi C0 F_Mo_125 ik_10_1 hP e121 d_Mo_type_225 ?_
  refine lv_iconst (v := 1) hx hb d_Mo_type_228 ic_1 ?_
  refine lv_isub hx hb d_Mo_type_229 ?_
  cases h
  exact r_iret C0 hP hS d_Mo_type_230
set_option maxHeartbeats 4000000 in
set_option maxRecDepth 100000 in
theorem w_Mo_type_156 {p : Program} {l : Launch} {e : Env} {s : State} {m : MethodId} {args : Array Value} {below : List Frame} {meth : Method} {c : Code} {G : fm_G} (C0 : fm_C p s m args meth c G (.code y_Mo_type b_Mo_type 8 (some .int)) "AllocationProfilerModel" b_Mo_type 8 (some .int)) {v : Int32} {M' : fm_M} (x0 : Nat) (x4 : Int32) (x5 : Int32) (s0 : Int32) {M : fm_M} {H : Heap} {locs : List Loc} (hP : kP G M H) (hS : kS G s H locs) {ls : Array Slot} (hl : lv_has ls 8 [(0, .ref (G.2.2 + x0)), (4, .int x4), (5, .int x5)]) (h : j_Mo_type_156 x0 x4 x5 s0 M = some (v, M')) : W p l e rm_Mo_type s m args below meth c H locs 0 0 (MQ below (fm_Q G 212 shF (some (.int v)) M') args s 0 0 (fm_A G.2.2)) (F0 m 156 ls [.int s0]) := by
  have hx := C0.1
  have hb := C0.2.1
  unfold j_Mo_type_156 at h
  refine lv_istore (lv' := [(7, .int s0), (0, .ref (G.2.2 + x0)), (4, .int x4), (5, .int x5)]) hx hb d_Mo_type_156 hl (by decide) rfl (fun ls hl => ?_)
  refine lv_iload hx hb d_Mo_type_158 (lv_at hl 2 rfl) ?_
  refine lv_if_le (tgt := 177) hx hb d_Mo_type_160 (by decide) (fun c122 => ?_) (fun c122 => ?_)
  · rw [if_pos c122] at h
    refine lv_iload hx hb d_Mo_type_177 (lv_at hl 0 rfl) ?_
    exact w_Mo_type_179 C0 x0 x5 s0 hP hS (lv_sub hl [1, 3] rfl) h
  · rw [if_neg c122] at h
    refine lv_iload hx hb d_Mo_type_163 (lv_at hl 0 rfl) ?_
    refine lv_iconst (v := 2) hx hb d_Mo_type_165 ic_2 ?_
    obtain ⟨x125, M123, e124, h⟩ := ob2 h
    refine k_cS C0 L_Mo_136 (As := [.int s0, .int 2]) (c_Mo_upTo l G s0 2 e124) ⟨rfl, rfl⟩ ⟨Nat.le_of_ble_eq_true rfl, Nat.le_of_ble_eq_true rfl⟩ hP hS rfl hl.1 rfl (Nat.le_of_ble_eq_true rfl) d_Mo_type_166 ⟨Nat.zero_le _, Nat.zero_le _⟩ (fun H locs hP hS => ?_)
    refine lv_iconst (v := 2) hx hb d_Mo_type_169 ic_2 ?_
    refine lv_iload hx hb d_Mo_type_170 (lv_at hl 2 rfl) ?_
    refine lv_imul hx hb d_Mo_type_172 ?_
    refine lv_iadd hx hb d_Mo_type_173 ?_
    refine lv_goto (tgt := 179) hx hb d_Mo_type_174 (by decide) ?_
    exact w_Mo_type_179 C0 x0 x5 (x125 + (2 * x4)) hP hS (lv_sub hl [1, 3] rfl) h
set_option maxHeartbeats 4000000 in
set_option maxRecDepth 100000 in
theorem w_Mo_type_135 {p : Program} {l : Launch} {e : Env} {s : State} {m : MethodId} {args : Array Value} {below : List Frame} {meth : Method} {c : Code} {G : fm_G} (C0 : fm_C p s m args meth c G (.code y_Mo_type b_Mo_type 8 (some .int)) "AllocationProfilerModel" b_Mo_type 8 (some .int)) {v : Int32} {M' : fm_M} (x0 : Nat) (x3 : Int32) (x4 : Int32) (x5 : Int32) (s0 : Int32) {M : fm_M} {H : Heap} {locs : List Loc} (hP : kP G M H) (hS : kS G s H locs) {ls : Array Slot} (hl : lv_has ls 8 [(0, .ref (G.2.2 + x0)), (3, .int x3), (4, .int x4), (5, .int x5)]) (h : j_Mo_type_135 x0 x3 x4 x5 s0 M = some (v, M')) : W p l e rm_Mo_type s m args below meth c H locs 0 0 (MQ below (fm_Q G 212 shF (some (.int v)) M') args s 0 0 (fm_A G.2.2)) (F0 m 135 ls [.int s0]) := by
  have hx := C0.1
  have hb := C0.2.1
  unfold j_Mo_type_135 at h
  refine lv_istore (lv' := [(7, .int s0), (0, .ref (G.2.2 + x0)), (3, .int x3), (4, .int x4), (5, .int x5)]) hx hb d_Mo_type_135 hl (by decide) rfl (fun ls hl => ?_)
  refine lv_iload_n hx hb d_Mo_type_137 rfl (lv_at hl 2 rfl) ?_
  refine lv_if_le (tgt := 154) hx hb d_Mo_type_138 (by decide) (fun c126 => ?_) (fun c126 => ?_)
  · rw [if_pos c126] at h
    refine lv_iload hx hb d_Mo_type_154 (lv_at hl 0 rfl) ?_
    exact w_Mo_type_156 C0 x0 x4 x5 s0 hP hS (lv_sub hl [1, 3, 4] rfl) h
  · rw [if_neg c126] at h
    refine lv_iload hx hb d_Mo_type_141 (lv_at hl 0 rfl) ?_
    refine lv_iconst (v := 4) hx hb d_Mo_type_143 ic_4 ?_
    obtain ⟨x129, M127, e128, h⟩ := ob2 h
    refine k_cS C0 L_Mo_136 (As := [.int s0, .int 4]) (c_Mo_upTo l G s0 4 e128) ⟨rfl, rfl⟩ ⟨Nat.le_of_ble_eq_true rfl, Nat.le_of_ble_eq_true rfl⟩ hP hS rfl hl.1 rfl (Nat.le_of_ble_eq_true rfl) d_Mo_type_144 ⟨Nat.zero_le _, Nat.zero_le _⟩ (fun H locs hP hS => ?_)
    refine lv_iconst (v := 4) hx hb d_Mo_type_147 ic_4 ?_
    refine lv_iload_n hx hb d_Mo_type_148 rfl (lv_at hl 2 rfl) ?_
    refine lv_imul hx hb d_Mo_type_149 ?_
    refine lv_iadd hx hb d_Mo_type_150 ?_
    refine lv_goto (tgt := 156) hx hb d_Mo_type_151 (by decide) ?_
    exact w_Mo_type_156 C0 x0 x4 x5 (x129 + (4 * x3)) hP hS (lv_sub hl [1, 3, 4] rfl) h
set_option maxHeartbeats 4000000 in
set_option maxRecDepth 100000 in
theorem w_Mo_type_112 {p : Program} {l : Launch} {e : Env} {s : State} {m : MethodId} {args : Array Value} {below : List Frame} {meth : Method} {c : Code} {G : fm_G} (C0 : fm_C p s m args meth c G (.code y_Mo_type b_Mo_type 8 (some .int)) "AllocationProfilerModel" b_Mo_type 8 (some .int)) {v : Int32} {M' : fm_M} (x0 : Nat) (x2 : Int32) (x3 : Int32) (x4 : Int32) (x5 : Int32) (s0 : Int32) {M : fm_M} {H : Heap} {locs : List Loc} (hP : kP G M H) (hS : kS G s H locs) {ls : Array Slot} (hl : lv_has ls 8 [(0, .ref (G.2.2 + x0)), (2, .int x2), (3, .int x3), (4, .int x4), (5, .int x5)]) (h : j_Mo_type_112 x0 x2 x3 x4 x5 s0 M = some (v, M')) : W p l e rm_Mo_type s m args below meth c H locs 0 0 (MQ below (fm_Q G 212 shF (some (.int v)) M') args s 0 0 (fm_A G.2.2)) (F0 m 112 ls [.int s0]) := by
  have hx := C0.1
  have hb := C0.2.1
  unfold j_Mo_type_112 at h
  refine lv_istore (lv' := [(7, .int s0), (0, .ref (G.2.2 + x0)), (2, .int x2), (3, .int x3), (4, .int x4), (5, .int x5)]) hx hb d_Mo_type_112 hl (by decide) rfl (fun ls hl => ?_)
  refine lv_iload_n hx hb d_Mo_type_114 rfl (lv_at hl 2 rfl) ?_
  refine lv_if_le (tgt := 133) hx hb d_Mo_type_115 (by decide) (fun c130 => ?_) (fun c130 => ?_)
  · rw [if_pos c130] at h
    refine lv_iload hx hb d_Mo_type_133 (lv_at hl 0 rfl) ?_
    exact w_Mo_type_135 C0 x0 x3 x4 x5 s0 hP hS (lv_sub hl [1, 3, 4, 5] rfl) h
  · rw [if_neg c130] at h
    refine lv_iload hx hb d_Mo_type_118 (lv_at hl 0 rfl) ?_
    refine lv_bipush (v := 8) hx hb d_Mo_type_120 bp_8 ?_
    obtain ⟨x133, M131, e132, h⟩ := ob2 h
    refine k_cS C0 L_Mo_136 (As := [.int s0, .int 8]) (c_Mo_upTo l G s0 8 e132) ⟨rfl, rfl⟩ ⟨Nat.le_of_ble_eq_true rfl, Nat.le_of_ble_eq_true rfl⟩ hP hS rfl hl.1 rfl (Nat.le_of_ble_eq_true rfl) d_Mo_type_122 ⟨Nat.zero_le _, Nat.zero_le _⟩ (fun H locs hP hS => ?_)
    refine lv_bipush (v := 8) hx hb d_Mo_type_125 bp_8 ?_
    refine lv_iload_n hx hb d_Mo_type_127 rfl (lv_at hl 2 rfl) ?_
    refine lv_imul hx hb d_Mo_type_128 ?_
    refine lv_iadd hx hb d_Mo_type_129 ?_
    refine lv_goto (tgt := 135) hx hb d_Mo_type_130 (by decide) ?_
    exact w_Mo_type_135 C0 x0 x3 x4 x5 (x133 + (8 * x2)) hP hS (lv_sub hl [1, 3, 4, 5] rfl) h
set_option maxHeartbeats 4000000 in
set_option maxRecDepth 100000 in
theorem w_Mo_type_85 {p : Program} {l : Launch} {e : Env} {s : State} {m : MethodId} {args : Array Value} {below : List Frame} {meth : Method} {c : Code} {G : fm_G} (C0 : fm_C p s m args meth c G (.code y_Mo_type b_Mo_type 8 (some .int)) "AllocationProfilerModel" b_Mo_type 8 (some .int)) {v : Int32} {M' : fm_M} (x0 : Nat) (x1 : Int32) (x2 : Int32) (x3 : Int32) (x4 : Int32) (x5 : Int32) (s0 : Nat) (s1 : Int32) {M : fm_M} {H : Heap} {locs : List Loc} (hP : kP G M H) (hS : kS G s H locs) {ls : Array Slot} (hl : lv_has ls 8 [(0, .ref (G.2.2 + x0)), (1, .int x1), (2, .int x2), (3, .int x3), (4, .int x4), (5, .int x5)]) (h : j_Mo_type_85 x0 x1 x2 x3 x4 x5 s0 s1 M = some (v, M')) : W p l e rm_Mo_type s m args below meth c H locs 0 0 (MQ below (fm_Q G 212 shF (some (.int v)) M') args s 0 0 (fm_A G.2.2)) (F0 m 85 ls [.int s1, .ref (G.2.2 + s0)]) := by
  have hx := C0.1
  have hb := C0.2.1
  unfold j_Mo_type_85 at h
  obtain ⟨M134, e135, h⟩ := ob h
  refine k_pi C0 F_Mo_122p ik_10_0 hP hS e135 d_Mo_type_85 (fun H locs hP hS => ?_)
  refine lv_aload_n hx hb d_Mo_type_88 rfl (lv_at hl 0 rfl) ?_
  obtain ⟨x136, e137, h⟩ := ob h
  refine k_gi C0 F_Mo_122 ik_10_0 hP e137 d_Mo_type_89 ?_
  refine lv_if_le (tgt := 97) hx hb d_Mo_type_92 (by decide) (fun c138 => ?_) (fun c138 => ?_)
  · rw [if_pos c138] at h
    refine lv_iload_n hx hb d_Mo_type_97 rfl (lv_at hl 1 rfl) ?_
    refine lv_if_ge (tgt := 106) hx hb d_Mo_type_98 (by decide) (fun c139 => ?_) (fun c139 => ?_)
    · rw [if_pos c139] at h
      refine lv_aload_n hx hb d_Mo_type_106 rfl (lv_at hl 0 rfl) ?_
      obtain ⟨q140, e141, h⟩ := ob h
      refine k_gr C0 F_Mo_7 hP e141 d_Mo_type_107 ?_
      refine lv_iload_n hx hb d_Mo_type_110 rfl (lv_at hl 1 rfl) ?_
      obtain ⟨x142, e143, h⟩ := ob h
      refine k_ai C0 hP e143 d_Mo_type_111 ?_
      exact w_Mo_type_112 C0 x0 x2 x3 x4 x5 x142 hP hS (lv_sub hl [0, 2, 3, 4, 5] rfl) h
    · rw [if_neg c139] at h
      refine lv_bipush (v := 12) hx hb d_Mo_type_101 bp_12 ?_
      refine lv_goto (tgt := 112) hx hb d_Mo_type_103 (by decide) ?_
      exact w_Mo_type_112 C0 x0 x2 x3 x4 x5 12 hP hS (lv_sub hl [0, 2, 3, 4, 5] rfl) h
  · rw [if_neg c138] at h
    refine lv_iconst (v := 0) hx hb d_Mo_type_95 ic_0 ?_
    cases h
    exact r_iret C0 hP hS d_Mo_type_96
set_option maxHeartbeats 4000000 in
set_option maxRecDepth 100000 in
theorem w_Mo_type_80 {p : Program} {l : Launch} {e : Env} {s : State} {m : MethodId} {args : Array Value} {below : List Frame} {meth : Method} {c : Code} {G : fm_G} (C0 : fm_C p s m args meth c G (.code y_Mo_type b_Mo_type 8 (some .int)) "AllocationProfilerModel" b_Mo_type 8 (some .int)) {v : Int32} {M' : fm_M} (x0 : Nat) (x1 : Int32) (x2 : Int32) (x3 : Int32) (x4 : Int32) (x5 : Int32) (s0 : Nat) {M : fm_M} {H : Heap} {locs : List Loc} (hP : kP G M H) (hS : kS G s H locs) {ls : Array Slot} (hl : lv_has ls 8 [(0, .ref (G.2.2 + x0)), (1, .int x1), (2, .int x2), (3, .int x3), (4, .int x4), (5, .int x5)]) (h : j_Mo_type_80 x0 x1 x2 x3 x4 x5 s0 M = some (v, M')) : W p l e rm_Mo_type s m args below meth c H locs 0 0 (MQ below (fm_Q G 212 shF (some (.int v)) M') args s 0 0 (fm_A G.2.2)) (F0 m 80 ls [.ref (G.2.2 + s0)]) := by
  have hx := C0.1
  have hb := C0.2.1
  unfold j_Mo_type_80 at h
  refine lv_iconst (v := 2) hx hb d_Mo_type_80 ic_2 ?_
  refine lv_goto (tgt := 85) hx hb d_Mo_type_81 (by decide) ?_
  exact w_Mo_type_85 C0 x0 x1 x2 x3 x4 x5 s0 2 hP hS (lv_sub hl [0, 1, 2, 3, 4, 5] rfl) h
set_option maxHeartbeats 4000000 in
set_option maxRecDepth 100000 in
theorem w_Mo_type_52 {p : Program} {l : Launch} {e : Env} {s : State} {m : MethodId} {args : Array Value} {below : List Frame} {meth : Method} {c : Code} {G : fm_G} (C0 : fm_C p s m args meth c G (.code y_Mo_type b_Mo_type 8 (some .int)) "AllocationProfilerModel" b_Mo_type 8 (some .int)) {v : Int32} {M' : fm_M} (x0 : Nat) (x1 : Int32) (x2 : Int32) (x3 : Int32) (x4 : Int32) (x5 : Int32) (s0 : Int32) {M : fm_M} {H : Heap} {locs : List Loc} (hP : kP G M H) (hS : kS G s H locs) {ls : Array Slot} (hl : lv_has ls 8 [(0, .ref (G.2.2 + x0)), (1, .int x1), (2, .int x2), (3, .int x3), (4, .int x4), (5, .int x5)]) (h : j_Mo_type_52 x0 x1 x2 x3 x4 x5 s0 M = some (v, M')) : W p l e rm_Mo_type s m args below meth c H locs 0 0 (MQ below (fm_Q G 212 shF (some (.int v)) M') args s 0 0 (fm_A G.2.2)) (F0 m 52 ls [.int s0]) := by
  have hx := C0.1
  have hb := C0.2.1
  unfold j_Mo_type_52 at h
  refine lv_istore (lv' := [(6, .int s0), (0, .ref (G.2.2 + x0)), (1, .int x1), (2, .int x2), (3, .int x3), (4, .int x4), (5, .int x5)]) hx hb d_Mo_type_52 hl (by decide) rfl (fun ls hl => ?_)
  refine lv_aload_n hx hb d_Mo_type_54 rfl (lv_at hl 1 rfl) ?_
  refine lv_iload hx hb d_Mo_type_55 (lv_at hl 0 rfl) ?_
  refine lv_if_ne (tgt := 64) hx hb d_Mo_type_57 (by decide) (fun c144 => ?_) (fun c144 => ?_)
  · rw [if_neg c144] at h
    refine lv_aload_n hx hb d_Mo_type_64 rfl (lv_at hl 1 rfl) ?_
    obtain ⟨x145, e146, h⟩ := ob h
    refine k_gi C0 F_Mo_125 ik_10_1 hP e146 d_Mo_type_65 ?_
    refine lv_bipush (v := 6) hx hb d_Mo_type_68 bp_6 ?_
    refine lv_icmp_eq (tgt := 80) hx hb d_Mo_type_70 (by decide) (fun c147 => ?_) (fun c147 => ?_)
    · rw [if_pos c147] at h
      exact w_Mo_type_80 C0 x0 x1 x2 x3 x4 x5 x0 hP hS (lv_sub hl [1, 2, 3, 4, 5, 6] rfl) h
    · rw [if_neg c147] at h
      refine lv_aload_n hx hb d_Mo_type_73 rfl (lv_at hl 1 rfl) ?_
      obtain ⟨x148, e149, h⟩ := ob h
      refine k_gi C0 F_Mo_132 ik_10_11 hP e149 d_Mo_type_74 ?_
      refine lv_if_eq (tgt := 84) hx hb d_Mo_type_77 (by decide) (fun c150 => ?_) (fun c150 => ?_)
      · rw [if_pos c150] at h
        refine lv_iconst (v := 0) hx hb d_Mo_type_84 ic_0 ?_
        exact w_Mo_type_85 C0 x0 x1 x2 x3 x4 x5 x0 0 hP hS (lv_sub hl [1, 2, 3, 4, 5, 6] rfl) h
      · rw [if_neg c150] at h
        exact w_Mo_type_80 C0 x0 x1 x2 x3 x4 x5 x0 hP hS (lv_sub hl [1, 2, 3, 4, 5, 6] rfl) h
  · rw [if_pos c144] at h
    refine lv_iconst (v := 1) hx hb d_Mo_type_60 ic_1 ?_
    refine lv_goto (tgt := 85) hx hb d_Mo_type_61 (by decide) ?_
    exact w_Mo_type_85 C0 x0 x1 x2 x3 x4 x5 x0 1 hP hS (lv_sub hl [1, 2, 3, 4, 5, 6] rfl) h
set_option maxHeartbeats 4000000 in
set_option maxRecDepth 100000 in
theorem w_Mo_type_51 {p : Program} {l : Launch} {e : Env} {s : State} {m : MethodId} {args : Array Value} {below : List Frame} {meth : Method} {c : Code} {G : fm_G} (C0 : fm_C p s m args meth c G (.code y_Mo_type b_Mo_type 8 (some .int)) "AllocationProfilerModel" b_Mo_type 8 (some .int)) {v : Int32} {M' : fm_M} (x0 : Nat) (x1 : Int32) (x2 : Int32) (x3 : Int32) (x4 : Int32) (x5 : Int32) {M : fm_M} {H : Heap} {locs : List Loc} (hP : kP G M H) (hS : kS G s H locs) {ls : Array Slot} (hl : lv_has ls 8 [(0, .ref (G.2.2 + x0)), (1, .int x1), (2, .int x2), (3, .int x3), (4, .int x4), (5, .int x5)]) (h : j_Mo_type_51 x0 x1 x2 x3 x4 x5 M = some (v, M')) : W p l e rm_Mo_type s m args below meth c H locs 0 0 (MQ below (fm_Q G 212 shF (some (.int v)) M') args s 0 0 (fm_A G.2.2)) (F0 m 51 ls []) := by
  have hx := C0.1
  have hb := C0.2.1
  unfold j_Mo_type_51 at h
  refine lv_iconst (v := 0) hx hb d_Mo_type_51 ic_0 ?_
  exact w_Mo_type_52 C0 x0 x1 x2 x3 x4 x5 0 hP hS (lv_sub hl [0, 1, 2, 3, 4, 5] rfl) h
set_option maxHeartbeats 4000000 in
set_option maxRecDepth 100000 in
theorem c_Mo_type (l : Launch) (G : fm_G) (x0 : Nat) (x1 : Int32) (x2 : Int32) (x3 : Int32) (x4 : Int32) (x5 : Int32) {v : Int32} {M M' : fm_M} (h : f_Mo_type x0 x1 x2 x3 x4 x5 M = some (v, M')) : kMet l y_Mo_type b_Mo_type 8 (some .int) rm_Mo_type G M [.ref (G.2.2 + x0), .int x1, .int x2, .int x3, .int x4, .int x5] (some (.int v)) M' := by
  refine r_met (by decide) rfl (Nat.le_of_ble_eq_true rfl) (fun p e s m args below meth c C0 hP ls hl => ?_)
  have hx := C0.1
  have hb := C0.2.1
  have hl : lv_has ls 8 [(0, .ref (G.2.2 + x0)), (1, .int x1), (2, .int x2), (3, .int x3), (4, .int x4), (5, .int x5)] := hl
  have hS : va_S (fm_A G.2.2) s.heap s.heap [] := va_S.rf
  unfold f_Mo_type at h
  refine lv_iload_n hx hb d_Mo_type_0 rfl (lv_at hl 1 rfl) ?_
  refine lv_iconst (v := (-1)) hx hb d_Mo_type_1 ic_m1 ?_
  refine lv_icmp_lt (tgt := 51) hx hb d_Mo_type_2 (by decide) (fun c151 => ?_) (fun c151 => ?_)
  · rw [if_pos c151] at h
    exact w_Mo_type_51 C0 x0 x1 x2 x3 x4 x5 hP hS (lv_sub hl [0, 1, 2, 3, 4, 5] rfl) h
  · rw [if_neg c151] at h
    refine lv_iload_n hx hb d_Mo_type_5 rfl (lv_at hl 1 rfl) ?_
    refine lv_aload_n hx hb d_Mo_type_6 rfl (lv_at hl 0 rfl) ?_
    obtain ⟨x152, e153, h⟩ := ob h
    refine k_gi C0 F_Mo_125 ik_10_1 hP e153 d_Mo_type_7 ?_
    refine lv_icmp_ge (tgt := 51) hx hb d_Mo_type_10 (by decide) (fun c154 => ?_) (fun c154 => ?_)
    · rw [if_pos c154] at h
      exact w_Mo_type_51 C0 x0 x1 x2 x3 x4 x5 hP hS (lv_sub hl [0, 1, 2, 3, 4, 5] rfl) h
    · rw [if_neg c154] at h
      refine lv_iload_n hx hb d_Mo_type_13 rfl (lv_at hl 2 rfl) ?_
      refine lv_iconst (v := 4) hx hb d_Mo_type_14 ic_4 ?_
      obtain ⟨x157, M155, e156, h⟩ := ob2 h
      refine k_cS C0 L_Mo_128 (As := [.int x2, .int 4]) (c_Mo_out l G x2 4 e156) ⟨rfl, rfl⟩ ⟨Nat.le_of_ble_eq_true rfl, Nat.le_of_ble_eq_true rfl⟩ hP hS rfl hl.1 rfl (Nat.le_of_ble_eq_true rfl) d_Mo_type_15 ⟨Nat.zero_le _, Nat.zero_le _⟩ (fun H locs hP hS => ?_)
      refine lv_if_ne (tgt := 51) hx hb d_Mo_type_18 (by decide) (fun c158 => ?_) (fun c158 => ?_)
      · rw [if_neg c158] at h
        exact w_Mo_type_51 C0 x0 x1 x2 x3 x4 x5 hP hS (lv_sub hl [0, 1, 2, 3, 4, 5] rfl) h
      · rw [if_pos c158] at h
        refine lv_iload_n hx hb d_Mo_type_21 rfl (lv_at hl 3 rfl) ?_
        refine lv_iconst (v := 4) hx hb d_Mo_type_22 ic_4 ?_
        obtain ⟨x161, M159, e160, h⟩ := ob2 h
        refine k_cS C0 L_Mo_128 (As := [.int x3, .int 4]) (c_Mo_out l G x3 4 e160) ⟨rfl, rfl⟩ ⟨Nat.le_of_ble_eq_true rfl, Nat.le_of_ble_eq_true rfl⟩ hP hS rfl hl.1 rfl (Nat.le_of_ble_eq_true rfl) d_Mo_type_23 ⟨Nat.zero_le _, Nat.zero_le _⟩ (fun H locs hP hS => ?_)
        refine lv_if_ne (tgt := 51) hx hb d_Mo_type_26 (by decide) (fun c162 => ?_) (fun c162 => ?_)
        · rw [if_neg c162] at h
          exact w_Mo_type_51 C0 x0 x1 x2 x3 x4 x5 hP hS (lv_sub hl [0, 1, 2, 3, 4, 5] rfl) h
        · rw [if_pos c162] at h
          refine lv_iload hx hb d_Mo_type_29 (lv_at hl 4 rfl) ?_
          refine lv_iconst (v := 4) hx hb d_Mo_type_31 ic_4 ?_
          obtain ⟨x165, M163, e164, h⟩ := ob2 h
          refine k_cS C0 L_Mo_128 (As := [.int x4, .int 4]) (c_Mo_out l G x4 4 e164) ⟨rfl, rfl⟩ ⟨Nat.le_of_ble_eq_true rfl, Nat.le_of_ble_eq_true rfl⟩ hP hS rfl hl.1 rfl (Nat.le_of_ble_eq_true rfl) d_Mo_type_32 ⟨Nat.zero_le _, Nat.zero_le _⟩ (fun H locs hP hS => ?_)
          refine lv_if_ne (tgt := 51) hx hb d_Mo_type_35 (by decide) (fun c166 => ?_) (fun c166 => ?_)
          · rw [if_neg c166] at h
            exact w_Mo_type_51 C0 x0 x1 x2 x3 x4 x5 hP hS (lv_sub hl [0, 1, 2, 3, 4, 5] rfl) h
          · rw [if_pos c166] at h
            refine lv_iload hx hb d_Mo_type_38 (lv_at hl 5 rfl) ?_
            refine lv_iconst (v := 4) hx hb d_Mo_type_40 ic_4 ?_
            obtain ⟨x169, M167, e168, h⟩ := ob2 h
            refine k_cS C0 L_Mo_128 (As := [.int x5, .int 4]) (c_Mo_out l G x5 4 e168) ⟨rfl, rfl⟩ ⟨Nat.le_of_ble_eq_true rfl, Nat.le_of_ble_eq_true rfl⟩ hP hS rfl hl.1 rfl (Nat.le_of_ble_eq_true rfl) d_Mo_type_41 ⟨Nat.zero_le _, Nat.zero_le _⟩ (fun H locs hP hS => ?_)
            refine lv_if_ne (tgt := 51) hx hb d_Mo_type_44 (by decide) (fun c170 => ?_) (fun c170 => ?_)
            · rw [if_neg c170] at h
              exact w_Mo_type_51 C0 x0 x1 x2 x3 x4 x5 hP hS (lv_sub hl [0, 1, 2, 3, 4, 5] rfl) h
            · rw [if_pos c170] at h
              refine lv_iconst (v := 1) hx hb d_Mo_type_47 ic_1 ?_
              refine lv_goto (tgt := 52) hx hb d_Mo_type_48 (by decide) ?_
              exact w_Mo_type_52 C0 x0 x1 x2 x3 x4 x5 1 hP hS (lv_sub hl [0, 1, 2, 3, 4, 5] rfl) h
/-! AllocationProfilerModel.size -/
def rm_Mo_size : Room := { frames := 1, cells := 0, slots := 0, locals := 21 }
theorem d_Mo_size_0 : decode b_Mo_size 0 = .ok (.aload_n 0, 1) := by decide +kernel
theorem d_Mo_size_1 : decode b_Mo_size 1 = .ok (.iconst 0, 1) := by decide +kernel
theorem d_Mo_size_2 : decode b_Mo_size 2 = .ok (.putfield 122, 3) := by decide +kernel
theorem d_Mo_size_5 : decode b_Mo_size 5 = .ok (.iload_n 1, 1) := by decide +kernel
theorem d_Mo_size_6 : decode b_Mo_size 6 = .ok (.aload_n 0, 1) := by decide +kernel
theorem d_Mo_size_7 : decode b_Mo_size 7 = .ok (.getfield 125, 3) := by decide +kernel
theorem d_Mo_size_10 : decode b_Mo_size 10 = .ok (.invokestatic 128, 3) := by decide +kernel
theorem d_Mo_size_13 : decode b_Mo_size 13 = .ok (.ifCond .eq 11, 3) := by decide +kernel
theorem d_Mo_size_16 : decode b_Mo_size 16 = .ok (.aload_n 0, 1) := by decide +kernel
theorem d_Mo_size_17 : decode b_Mo_size 17 = .ok (.iconst 1, 1) := by decide +kernel
theorem d_Mo_size_18 : decode b_Mo_size 18 = .ok (.invokevirtual 140, 3) := by decide +kernel
theorem d_Mo_size_21 : decode b_Mo_size 21 = .ok (.goto 9, 3) := by decide +kernel
theorem d_Mo_size_24 : decode b_Mo_size 24 = .ok (.aload_n 0, 1) := by decide +kernel
theorem d_Mo_size_25 : decode b_Mo_size 25 = .ok (.getfield 13, 3) := by decide +kernel
theorem d_Mo_size_28 : decode b_Mo_size 28 = .ok (.iload_n 1, 1) := by decide +kernel
theorem d_Mo_size_29 : decode b_Mo_size 29 = .ok (.iaload, 1) := by decide +kernel
theorem d_Mo_size_30 : decode b_Mo_size 30 = .ok (.ireturn, 1) := by decide +kernel
def f_Mo_size (x0 : Nat) (x1 : Int32) (M : fm_M) : Option (Int32 × fm_M) :=
  (pi x0 10 0 0 M).bind fun M101 =>
  (gi x0 10 1 M101).bind fun x103 =>
  bd (f_Mo_out x1 x103 M101) fun x107 M105 =>
  if x107 = 0 then
    (gr x0 10 3).bind fun q109 =>
    (ai q109 x1 M105).bind fun x111 =>
    some (x111, M105)
  else
    (ck x0 10).bind fun _ =>
    bd (f_Mo_fail x0 1 M105) fun x116 M114 =>
    some (x116, M114)
set_option maxHeartbeats 4000000 in
set_option maxRecDepth 100000 in
theorem c_Mo_size (l : Launch) (G : fm_G) (x0 : Nat) (x1 : Int32) {v : Int32} {M M' : fm_M} (h : f_Mo_size x0 x1 M = some (v, M')) : kMet l y_Mo_size b_Mo_size 2 (some .int) rm_Mo_size G M [.ref (G.2.2 + x0), .int x1] (some (.int v)) M' := by
  refine r_met (by decide) rfl (Nat.le_of_ble_eq_true rfl) (fun p e s m args below meth c C0 hP ls hl => ?_)
  have hx := C0.1
  have hb := C0.2.1
  have hl : lv_has ls 2 [(0, .ref (G.2.2 + x0)), (1, .int x1)] := hl
  have hS : va_S (fm_A G.2.2) s.heap s.heap [] := va_S.rf
  unfold f_Mo_size at h
  refine lv_aload_n hx hb d_Mo_size_0 rfl (lv_at hl 0 rfl) ?_
  refine lv_iconst (v := 0) hx hb d_Mo_size_1 ic_0 ?_
  obtain ⟨M101, e102, h⟩ := ob h
  refine k_pi C0 F_Mo_122p ik_10_0 hP hS e102 d_Mo_size_2 (fun H locs hP hS => ?_)
  refine lv_iload_n hx hb d_Mo_size_5 rfl (lv_at hl 1 rfl) ?_
  refine lv_aload_n hx hb d_Mo_size_6 rfl (lv_at hl 0 rfl) ?_
  obtain ⟨x103, e104, h⟩ := ob h
  refine k_gi C0 F_Mo_125 ik_10_1 hP e104 d_Mo_size_7 ?_
  obtain ⟨x107, M105, e106, h⟩ := ob2 h
  refine k_cS C0 L_Mo_128 (As := [.int x1, .int x103]) (c_Mo_out l G x1 x103 e106) ⟨rfl, rfl⟩ ⟨Nat.le_of_ble_eq_true rfl, Nat.le_of_ble_eq_true rfl⟩ hP hS rfl hl.1 rfl (Nat.le_of_ble_eq_true rfl) d_Mo_size_10 ⟨Nat.zero_le _, Nat.zero_le _⟩ (fun H locs hP hS => ?_)
  refine lv_if_eq (tgt := 24) hx hb d_Mo_size_13 (by decide) (fun c108 => ?_) (fun c108 => ?_)
  · rw [if_pos c108] at h
    refine lv_aload_n hx hb d_Mo_size_24 rfl (lv_at hl 0 rfl) ?_
    obtain ⟨q109, e110, h⟩ := ob h
    refine k_gr C0 F_Mo_13 hP e110 d_Mo_size_25 ?_
    refine lv_iload_n hx hb d_Mo_size_28 rfl (lv_at hl 1 rfl) ?_
    obtain ⟨x111, e112, h⟩ := ob h
    refine k_ai C0 hP e112 d_Mo_size_29 ?_
    cases h
    exact r_iret C0 hP hS d_Mo_size_30
  · rw [if_neg c108] at h
    refine lv_aload_n hx hb d_Mo_size_16 rfl (lv_at hl 0 rfl) ?_
    refine lv_iconst (v := 1) hx hb d_Mo_size_17 ic_1 ?_
    obtain ⟨_, e113, h⟩ := ob h
    obtain ⟨x116, M114, e115, h⟩ := ob2 h
    refine k_cV C0 L_Mo_140 (As := [.int 1]) (c_Mo_fail l G x0 1 e115) ⟨rfl, rfl⟩ ⟨Nat.le_of_ble_eq_true rfl, Nat.le_of_ble_eq_true rfl⟩ hP hS (ck_of e113) ly_Mo rfl hl.1 rfl (Nat.le_of_ble_eq_true rfl) d_Mo_size_18 ⟨Nat.zero_le _, Nat.zero_le _⟩ (fun H locs hP hS => ?_)
    refine lv_goto (tgt := 30) hx hb d_Mo_size_21 (by decide) ?_
    cases h
    exact r_iret C0 hP hS d_Mo_size_30
/-! AllocationProfilerModel.draft -/
def rm_Mo_draft : Room := { frames := 1, cells := 0, slots := 0, locals := 21 }
theorem d_Mo_draft_0 : decode b_Mo_draft 0 = .ok (.aload_n 0, 1) := by decide +kernel
theorem d_Mo_draft_1 : decode b_Mo_draft 1 = .ok (.iload_n 1, 1) := by decide +kernel
theorem d_Mo_draft_2 : decode b_Mo_draft 2 = .ok (.bipush 16, 2) := by decide +kernel
theorem d_Mo_draft_4 : decode b_Mo_draft 4 = .ok (.invokestatic 128, 3) := by decide +kernel
theorem d_Mo_draft_7 : decode b_Mo_draft 7 = .ok (.ifCond .eq 7, 3) := by decide +kernel
theorem d_Mo_draft_10 : decode b_Mo_draft 10 = .ok (.iconst 1, 1) := by decide +kernel
theorem d_Mo_draft_11 : decode b_Mo_draft 11 = .ok (.goto 17, 3) := by decide +kernel
theorem d_Mo_draft_14 : decode b_Mo_draft 14 = .ok (.aload_n 0, 1) := by decide +kernel
theorem d_Mo_draft_15 : decode b_Mo_draft 15 = .ok (.getfield 144, 3) := by decide +kernel
theorem d_Mo_draft_18 : decode b_Mo_draft 18 = .ok (.bipush 24, 2) := by decide +kernel
theorem d_Mo_draft_20 : decode b_Mo_draft 20 = .ok (.if_icmp .ne 7, 3) := by decide +kernel
theorem d_Mo_draft_23 : decode b_Mo_draft 23 = .ok (.iconst 2, 1) := by decide +kernel
theorem d_Mo_draft_24 : decode b_Mo_draft 24 = .ok (.goto 4, 3) := by decide +kernel
theorem d_Mo_draft_27 : decode b_Mo_draft 27 = .ok (.iconst 0, 1) := by decide +kernel
theorem d_Mo_draft_28 : decode b_Mo_draft 28 = .ok (.putfield 122, 3) := by decide +kernel
theorem d_Mo_draft_31 : decode b_Mo_draft 31 = .ok (.aload_n 0, 1) := by decide +kernel
theorem d_Mo_draft_32 : decode b_Mo_draft 32 = .ok (.getfield 122, 3) := by decide +kernel
theorem d_Mo_draft_35 : decode b_Mo_draft 35 = .ok (.ifCond .le 5, 3) := by decide +kernel
theorem d_Mo_draft_38 : decode b_Mo_draft 38 = .ok (.iconst 0, 1) := by decide +kernel
theorem d_Mo_draft_39 : decode b_Mo_draft 39 = .ok (.ireturn, 1) := by decide +kernel
theorem d_Mo_draft_40 : decode b_Mo_draft 40 = .ok (.aload_n 0, 1) := by decide +kernel
theorem d_Mo_draft_41 : decode b_Mo_draft 41 = .ok (.getfield 16, 3) := by decide +kernel
theorem d_Mo_draft_44 : decode b_Mo_draft 44 = .ok (.aload_n 0, 1) := by decide +kernel
theorem d_Mo_draft_45 : decode b_Mo_draft 45 = .ok (.getfield 144, 3) := by decide +kernel
theorem d_Mo_draft_48 : decode b_Mo_draft 48 = .ok (.iload_n 1, 1) := by decide +kernel
theorem d_Mo_draft_49 : decode b_Mo_draft 49 = .ok (.iastore, 1) := by decide +kernel
theorem d_Mo_draft_50 : decode b_Mo_draft 50 = .ok (.aload_n 0, 1) := by decide +kernel
theorem d_Mo_draft_51 : decode b_Mo_draft 51 = .ok (.getfield 19, 3) := by decide +kernel
theorem d_Mo_draft_54 : decode b_Mo_draft 54 = .ok (.aload_n 0, 1) := by decide +kernel
theorem d_Mo_draft_55 : decode b_Mo_draft 55 = .ok (.getfield 144, 3) := by decide +kernel
theorem d_Mo_draft_58 : decode b_Mo_draft 58 = .ok (.iload_n 2, 1) := by decide +kernel
theorem d_Mo_draft_59 : decode b_Mo_draft 59 = .ok (.iastore, 1) := by decide +kernel
theorem d_Mo_draft_60 : decode b_Mo_draft 60 = .ok (.aload_n 0, 1) := by decide +kernel
theorem d_Mo_draft_61 : decode b_Mo_draft 61 = .ok (.dup, 1) := by decide +kernel
theorem d_Mo_draft_62 : decode b_Mo_draft 62 = .ok (.getfield 144, 3) := by decide +kernel
theorem d_Mo_draft_65 : decode b_Mo_draft 65 = .ok (.iconst 1, 1) := by decide +kernel
theorem d_Mo_draft_66 : decode b_Mo_draft 66 = .ok (.iadd, 1) := by decide +kernel
theorem d_Mo_draft_67 : decode b_Mo_draft 67 = .ok (.putfield 144, 3) := by decide +kernel
theorem d_Mo_draft_70 : decode b_Mo_draft 70 = .ok (.aload_n 0, 1) := by decide +kernel
theorem d_Mo_draft_71 : decode b_Mo_draft 71 = .ok (.getfield 144, 3) := by decide +kernel
theorem d_Mo_draft_74 : decode b_Mo_draft 74 = .ok (.iconst 1, 1) := by decide +kernel
theorem d_Mo_draft_75 : decode b_Mo_draft 75 = .ok (.isub, 1) := by decide +kernel
theorem d_Mo_draft_76 : decode b_Mo_draft 76 = .ok (.ireturn, 1) := by decide +kernel
def j_Mo_draft_28 (x0 : Nat) (x1 : Int32) (x2 : Int32) (s0 : Nat) (s1 : Int32) (M : fm_M) : Option (Int32 × fm_M) :=
  (pi s0 10 0 s1 M).bind fun M101 =>
  (gi x0 10 0 M101).bind fun x103 =>
  if x103 ≤ 0 then
    (gr x0 10 5).bind fun q106 =>
    (gi x0 10 4 M101).bind fun x108 =>
    (si q106 x108 x1 M101).bind fun M110 =>
    (gr x0 10 6).bind fun q112 =>
    (gi x0 10 4 M110).bind fun x114 =>
    (si q112 x114 x2 M110).bind fun M116 =>
    (gi x0 10 4 M116).bind fun x118 =>
    (pi x0 10 4 (x118 + 1) M116).bind fun M120 =>
    (gi x0 10 4 M120).bind fun x122 =>
    some ((x122 - 1), M120)
  else
    some (0, M101)
def f_Mo_draft (x0 : Nat) (x1 : Int32) (x2 : Int32) (M : fm_M) : Option (Int32 × fm_M) :=
  bd (f_Mo_out x1 16 M) fun x126 M124 =>
  if x126 = 0 then
    (gi x0 10 4 M124).bind fun x128 =>
    if x128 = 24 then
      j_Mo_draft_28 x0 x1 x2 x0 2 M124
    else
      j_Mo_draft_28 x0 x1 x2 x0 0 M124
  else
    j_Mo_draft_28 x0 x1 x2 x0 1 M124
set_option maxHeartbeats 4000000 in
set_option maxRecDepth 100000 in
theorem w_Mo_draft_28 {p : Program} {l : Launch} {e : Env} {s : State} {m : MethodId} {args : Array Value} {below : List Frame} {meth : Method} {c : Code} {G : fm_G} (C0 : fm_C p s m args meth c G (.code y_Mo_draft b_Mo_draft 3 (some .int)) "AllocationProfilerModel" b_Mo_draft 3 (some .int)) {v : Int32} {M' : fm_M} (x0 : Nat) (x1 : Int32) (x2 : Int32) (s0 : Nat) (s1 : Int32) {M : fm_M} {H : Heap} {locs : List Loc} (hP : kP G M H) (hS : kS G s H locs) {ls : Array Slot} (hl : lv_has ls 3 [(0, .ref (G.2.2 + x0)), (1, .int x1), (2, .int x2)]) (h : j_Mo_draft_28 x0 x1 x2 s0 s1 M = some (v, M')) : W p l e rm_Mo_draft s m args below meth c H locs 0 0 (MQ below (fm_Q G 212 shF (some (.int v)) M') args s 0 0 (fm_A G.2.2)) (F0 m 28 ls [.int s1, .ref (G.2.2 + s0)]) := by
  have hx := C0.1
  have hb := C0.2.1
  unfold j_Mo_draft_28 at h
  obtain ⟨M101, e102, h⟩ := ob h
  refine k_pi C0 F_Mo_122p ik_10_0 hP hS e102 d_Mo_draft_28 (fun H locs hP hS => ?_)
  refine lv_aload_n hx hb d_Mo_draft_31 rfl (lv_at hl 0 rfl) ?_
  obtain ⟨x103, e104, h⟩ := ob h
  refine k_gi C0 F_Mo_122 ik_10_0 hP e104 d_Mo_draft_32 ?_
  refine lv_if_le (tgt := 40) hx hb d_Mo_draft_35 (by decide) (fun c105 => ?_) (fun c105 => ?_)
  · rw [if_pos c105] at h
    refine lv_aload_n hx hb d_Mo_draft_40 rfl (lv_at hl 0 rfl) ?_
    obtain ⟨q106, e107, h⟩ := ob h
    refine k_gr C0 F_Mo_16 hP e107 d_Mo_draft_41 ?_
    refine lv_aload_n hx hb d_Mo_draft_44 rfl (lv_at hl 0 rfl) ?_
    obtain ⟨x108, e109, h⟩ := ob h
    refine k_gi C0 F_Mo_144 ik_10_4 hP e109 d_Mo_draft_45 ?_
    refine lv_iload_n hx hb d_Mo_draft_48 rfl (lv_at hl 1 rfl) ?_
    obtain ⟨M110, e111, h⟩ := ob h
    refine k_si C0 hP hS e111 d_Mo_draft_49 (fun H locs hP hS => ?_)
    refine lv_aload_n hx hb d_Mo_draft_50 rfl (lv_at hl 0 rfl) ?_
    obtain ⟨q112, e113, h⟩ := ob h
    refine k_gr C0 F_Mo_19 hP e113 d_Mo_draft_51 ?_
    refine lv_aload_n hx hb d_Mo_draft_54 rfl (lv_at hl 0 rfl) ?_
    obtain ⟨x114, e115, h⟩ := ob h
    refine k_gi C0 F_Mo_144 ik_10_4 hP e115 d_Mo_draft_55 ?_
    refine lv_iload_n hx hb d_Mo_draft_58 rfl (lv_at hl 2 rfl) ?_
    obtain ⟨M116, e117, h⟩ := ob h
    refine k_si C0 hP hS e117 d_Mo_draft_59 (fun H locs hP hS => ?_)
    refine lv_aload_n hx hb d_Mo_draft_60 rfl (lv_at hl 0 rfl) ?_
    refine lv_dup hx hb d_Mo_draft_61 rfl ?_
    obtain ⟨x118, e119, h⟩ := ob h
    refine k_gi C0 F_Mo_144 ik_10_4 hP e119 d_Mo_draft_62 ?_
    refine lv_iconst (v := 1) hx hb d_Mo_draft_65 ic_1 ?_
    refine lv_iadd hx hb d_Mo_draft_66 ?_
    obtain ⟨M120, e121, h⟩ := ob h
    refine k_pi C0 F_Mo_144p ik_10_4 hP hS e121 d_Mo_draft_67 (fun H locs hP hS => ?_)
    refine lv_aload_n hx hb d_Mo_draft_70 rfl (lv_at hl 0 rfl) ?_
    obtain ⟨x122, e123, h⟩ := ob h
    refine k_gi C0 F_Mo_144 ik_10_4 hP e123 d_Mo_draft_71 ?_
    refine lv_iconst (v := 1) hx hb d_Mo_draft_74 ic_1 ?_
    refine lv_isub hx hb d_Mo_draft_75 ?_
    cases h
    exact r_iret C0 hP hS d_Mo_draft_76
  · rw [if_neg c105] at h
    refine lv_iconst (v := 0) hx hb d_Mo_draft_38 ic_0 ?_
    cases h
    exact r_iret C0 hP hS d_Mo_draft_39
set_option maxHeartbeats 4000000 in
set_option maxRecDepth 100000 in
theorem c_Mo_draft (l : Launch) (G : fm_G) (x0 : Nat) (x1 : Int32) (x2 : Int32) {v : Int32} {M M' : fm_M} (h : f_Mo_draft x0 x1 x2 M = some (v, M')) : kMet l y_Mo_draft b_Mo_draft 3 (some .int) rm_Mo_draft G M [.ref (G.2.2 + x0), .int x1, .int x2] (some (.int v)) M' := by
  refine r_met (by decide) rfl (Nat.le_of_ble_eq_true rfl) (fun p e s m args below meth c C0 hP ls hl => ?_)
  have hx := C0.1
  have hb := C0.2.1
  have hl : lv_has ls 3 [(0, .ref (G.2.2 + x0)), (1, .int x1), (2, .int x2)] := hl
  have hS : va_S (fm_A G.2.2) s.heap s.heap [] := va_S.rf
  unfold f_Mo_draft at h
  refine lv_aload_n hx hb d_Mo_draft_0 rfl (lv_at hl 0 rfl) ?_
  refine lv_iload_n hx hb d_Mo_draft_1 rfl (lv_at hl 1 rfl) ?_
  refine lv_bipush (v := 16) hx hb d_Mo_draft_2 bp_16 ?_
  obtain ⟨x126, M124, e125, h⟩ := ob2 h
  refine k_cS C0 L_Mo_128 (As := [.int x1, .int 16]) (c_Mo_out l G x1 16 e125) ⟨rfl, rfl⟩ ⟨Nat.le_of_ble_eq_true rfl, Nat.le_of_ble_eq_true rfl⟩ hP hS rfl hl.1 rfl (Nat.le_of_ble_eq_true rfl) d_Mo_draft_4 ⟨Nat.zero_le _, Nat.zero_le _⟩ (fun H locs hP hS => ?_)
  refine lv_if_eq (tgt := 14) hx hb d_Mo_draft_7 (by decide) (fun c127 => ?_) (fun c127 => ?_)
  · rw [if_pos c127] at h
    refine lv_aload_n hx hb d_Mo_draft_14 rfl (lv_at hl 0 rfl) ?_
    obtain ⟨x128, e129, h⟩ := ob h
    refine k_gi C0 F_Mo_144 ik_10_4 hP e129 d_Mo_draft_15 ?_
    refine lv_bipush (v := 24) hx hb d_Mo_draft_18 bp_24 ?_
    refine lv_icmp_ne (tgt := 27) hx hb d_Mo_draft_20 (by decide) (fun c130 => ?_) (fun c130 => ?_)
    · rw [if_neg c130] at h
      refine lv_iconst (v := 0) hx hb d_Mo_draft_27 ic_0 ?_
      exact w_Mo_draft_28 C0 x0 x1 x2 x0 0 hP hS (lv_sub hl [0, 1, 2] rfl) h
    · rw [if_pos c130] at h
      refine lv_iconst (v := 2) hx hb d_Mo_draft_23 ic_2 ?_
      refine lv_goto (tgt := 28) hx hb d_Mo_draft_24 (by decide) ?_
      exact w_Mo_draft_28 C0 x0 x1 x2 x0 2 hP hS (lv_sub hl [0, 1, 2] rfl) h
  · rw [if_neg c127] at h
    refine lv_iconst (v := 1) hx hb d_Mo_draft_10 ic_1 ?_
    refine lv_goto (tgt := 28) hx hb d_Mo_draft_11 (by decide) ?_
    exact w_Mo_draft_28 C0 x0 x1 x2 x0 1 hP hS (lv_sub hl [0, 1, 2] rfl) h
