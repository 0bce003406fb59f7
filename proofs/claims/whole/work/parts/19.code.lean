/-! AllocationProfilerModel.run -/
def rm_Mo_run : Room := { frames := 5, cells := 0, slots := 0, locals := 123 }
theorem d_Mo_run_0 : decode b_Mo_run 0 = .ok (.aload_n 0, 1) := by decide +kernel
theorem d_Mo_run_1 : decode b_Mo_run 1 = .ok (.iload_n 1, 1) := by decide +kernel
theorem d_Mo_run_2 : decode b_Mo_run 2 = .ok (.iconst 1, 1) := by decide +kernel
theorem d_Mo_run_3 : decode b_Mo_run 3 = .ok (.if_icmp .lt 10, 3) := by decide +kernel
theorem d_Mo_run_6 : decode b_Mo_run 6 = .ok (.iload_n 1, 1) := by decide +kernel
theorem d_Mo_run_7 : decode b_Mo_run 7 = .ok (.sipush 200, 3) := by decide +kernel
theorem d_Mo_run_10 : decode b_Mo_run 10 = .ok (.if_icmp .le 7, 3) := by decide +kernel
theorem d_Mo_run_13 : decode b_Mo_run 13 = .ok (.iconst 1, 1) := by decide +kernel
theorem d_Mo_run_14 : decode b_Mo_run 14 = .ok (.goto 4, 3) := by decide +kernel
theorem d_Mo_run_17 : decode b_Mo_run 17 = .ok (.iconst 0, 1) := by decide +kernel
theorem d_Mo_run_18 : decode b_Mo_run 18 = .ok (.putfield 122, 3) := by decide +kernel
theorem d_Mo_run_21 : decode b_Mo_run 21 = .ok (.iconst 0, 1) := by decide +kernel
theorem d_Mo_run_22 : decode b_Mo_run 22 = .ok (.istore_n 2, 1) := by decide +kernel
theorem d_Mo_run_23 : decode b_Mo_run 23 = .ok (.iload_n 2, 1) := by decide +kernel
theorem d_Mo_run_24 : decode b_Mo_run 24 = .ok (.iload_n 1, 1) := by decide +kernel
theorem d_Mo_run_25 : decode b_Mo_run 25 = .ok (.if_icmp .ge 65, 3) := by decide +kernel
theorem d_Mo_run_28 : decode b_Mo_run 28 = .ok (.aload_n 0, 1) := by decide +kernel
theorem d_Mo_run_29 : decode b_Mo_run 29 = .ok (.getfield 122, 3) := by decide +kernel
theorem d_Mo_run_32 : decode b_Mo_run 32 = .ok (.ifCond .ne 58, 3) := by decide +kernel
theorem d_Mo_run_35 : decode b_Mo_run 35 = .ok (.aload_n 0, 1) := by decide +kernel
theorem d_Mo_run_36 : decode b_Mo_run 36 = .ok (.invokevirtual 263, 3) := by decide +kernel
theorem d_Mo_run_39 : decode b_Mo_run 39 = .ok (.istore_n 3, 1) := by decide +kernel
theorem d_Mo_run_40 : decode b_Mo_run 40 = .ok (.iload_n 3, 1) := by decide +kernel
theorem d_Mo_run_41 : decode b_Mo_run 41 = .ok (.ifCond .ge 5, 3) := by decide +kernel
theorem d_Mo_run_44 : decode b_Mo_run 44 = .ok (.iload_n 2, 1) := by decide +kernel
theorem d_Mo_run_45 : decode b_Mo_run 45 = .ok (.ireturn, 1) := by decide +kernel
theorem d_Mo_run_46 : decode b_Mo_run 46 = .ok (.aload_n 0, 1) := by decide +kernel
theorem d_Mo_run_47 : decode b_Mo_run 47 = .ok (.iload_n 3, 1) := by decide +kernel
theorem d_Mo_run_48 : decode b_Mo_run 48 = .ok (.iconst 1, 1) := by decide +kernel
theorem d_Mo_run_49 : decode b_Mo_run 49 = .ok (.iadd, 1) := by decide +kernel
theorem d_Mo_run_50 : decode b_Mo_run 50 = .ok (.iconst 3, 1) := by decide +kernel
theorem d_Mo_run_51 : decode b_Mo_run 51 = .ok (.irem, 1) := by decide +kernel
theorem d_Mo_run_52 : decode b_Mo_run 52 = .ok (.putfield 260, 3) := by decide +kernel
theorem d_Mo_run_55 : decode b_Mo_run 55 = .ok (.aload_n 0, 1) := by decide +kernel
theorem d_Mo_run_56 : decode b_Mo_run 56 = .ok (.iload_n 3, 1) := by decide +kernel
theorem d_Mo_run_57 : decode b_Mo_run 57 = .ok (.invokevirtual 266, 3) := by decide +kernel
theorem d_Mo_run_60 : decode b_Mo_run 60 = .ok (.aload_n 0, 1) := by decide +kernel
theorem d_Mo_run_61 : decode b_Mo_run 61 = .ok (.dup, 1) := by decide +kernel
theorem d_Mo_run_62 : decode b_Mo_run 62 = .ok (.getfield 269, 3) := by decide +kernel
theorem d_Mo_run_65 : decode b_Mo_run 65 = .ok (.iconst 1, 1) := by decide +kernel
theorem d_Mo_run_66 : decode b_Mo_run 66 = .ok (.iadd, 1) := by decide +kernel
theorem d_Mo_run_67 : decode b_Mo_run 67 = .ok (.putfield 269, 3) := by decide +kernel
theorem d_Mo_run_70 : decode b_Mo_run 70 = .ok (.iinc 2 1, 3) := by decide +kernel
theorem d_Mo_run_73 : decode b_Mo_run 73 = .ok (.aload_n 0, 1) := by decide +kernel
theorem d_Mo_run_74 : decode b_Mo_run 74 = .ok (.getfield 269, 3) := by decide +kernel
theorem d_Mo_run_77 : decode b_Mo_run 77 = .ok (.bipush 16, 2) := by decide +kernel
theorem d_Mo_run_79 : decode b_Mo_run 79 = .ok (.irem, 1) := by decide +kernel
theorem d_Mo_run_80 : decode b_Mo_run 80 = .ok (.ifCond .ne 7, 3) := by decide +kernel
theorem d_Mo_run_83 : decode b_Mo_run 83 = .ok (.aload_n 0, 1) := by decide +kernel
theorem d_Mo_run_84 : decode b_Mo_run 84 = .ok (.invokevirtual 272, 3) := by decide +kernel
theorem d_Mo_run_87 : decode b_Mo_run 87 = .ok (.goto (-64), 3) := by decide +kernel
theorem d_Mo_run_90 : decode b_Mo_run 90 = .ok (.iload_n 2, 1) := by decide +kernel
theorem d_Mo_run_91 : decode b_Mo_run 91 = .ok (.ireturn, 1) := by decide +kernel
def j_Mo_run_87 (k23 : Nat → Int32 → Int32 → fm_M → Option (Int32 × fm_M)) (x0 : Nat) (x1 : Int32) (x2 : Int32) (M : fm_M) : Option (Int32 × fm_M) :=
  k23 x0 x1 x2 M
def h_Mo_run_23 : Nat → Nat → Int32 → Int32 → fm_M → Option (Int32 × fm_M)
  | 0, _, _, _, _ => none
  | n + 1, x0, x1, x2, M =>
    if x1 ≤ x2 then
      some (x2, M)
    else
      (gi x0 10 0 M).bind fun x102 =>
      if x102 = 0 then
        (ck x0 10).bind fun _ =>
        bd (f_Mo_next x0 M) fun x108 M106 =>
        if 0 ≤ x108 then
          (pi x0 10 33 ((x108 + 1) - (x108 + 1) / 3 * 3) M106).bind fun M110 =>
          (ck x0 10).bind fun _ =>
          (f_Mo_execute x0 x108 M110).bind fun M113 =>
          (gi x0 10 34 M113).bind fun x115 =>
          (pi x0 10 34 (x115 + 1) M113).bind fun M117 =>
          (gi x0 10 34 M117).bind fun x119 =>
          if (x119 - x119 / 16 * 16) = 0 then
            (ck x0 10).bind fun _ =>
            (f_Mo_fade x0 M117).bind fun M123 =>
            j_Mo_run_87 (h_Mo_run_23 n) x0 x1 (x2 + 1) M123
          else
            j_Mo_run_87 (h_Mo_run_23 n) x0 x1 (x2 + 1) M117
        else
          some (x2, M106)
      else
        some (x2, M)
def j_Mo_run_18 (x0 : Nat) (x1 : Int32) (s0 : Nat) (s1 : Int32) (M : fm_M) : Option (Int32 × fm_M) :=
  (pi s0 10 0 s1 M).bind fun M125 =>
  h_Mo_run_23 100000 x0 x1 0 M125
def j_Mo_run_13 (x0 : Nat) (x1 : Int32) (s0 : Nat) (M : fm_M) : Option (Int32 × fm_M) :=
  j_Mo_run_18 x0 x1 s0 1 M
def f_Mo_run (x0 : Nat) (x1 : Int32) (M : fm_M) : Option (Int32 × fm_M) :=
  if x1 < 1 then
    j_Mo_run_13 x0 x1 x0 M
  else
    if x1 ≤ 200 then
      j_Mo_run_18 x0 x1 x0 0 M
    else
      j_Mo_run_13 x0 x1 x0 M
set_option maxHeartbeats 4000000 in
set_option maxRecDepth 100000 in
theorem w_Mo_run_87 {p : Program} {l : Launch} {e : Env} {s : State} {m : MethodId} {args : Array Value} {below : List Frame} {meth : Method} {c : Code} {G : fm_G} (C0 : fm_C p s m args meth c G (.code y_Mo_run b_Mo_run 4 (some .int)) "AllocationProfilerModel" b_Mo_run 4 (some .int)) {v : Int32} {M' : fm_M} (k23 : Nat → Int32 → Int32 → fm_M → Option (Int32 × fm_M)) (hk23 : ∀ (x0 : Nat) (x1 : Int32) (x2 : Int32) {M : fm_M} {H : Heap} {locs : List Loc}, kP G M H → kS G s H locs → ∀ {ls : Array Slot}, lv_has ls 4 [(0, .ref (G.2.2 + x0)), (1, .int x1), (2, .int x2)] → k23 x0 x1 x2 M = some (v, M') → W p l e rm_Mo_run s m args below meth c H locs 0 0 (MQ below (fm_Q G 212 shF (some (.int v)) M') args s 0 0 (fm_A G.2.2)) (F0 m 23 ls [])) (x0 : Nat) (x1 : Int32) (x2 : Int32) {M : fm_M} {H : Heap} {locs : List Loc} (hP : kP G M H) (hS : kS G s H locs) {ls : Array Slot} (hl : lv_has ls 4 [(0, .ref (G.2.2 + x0)), (1, .int x1), (2, .int x2)]) (h : j_Mo_run_87 k23 x0 x1 x2 M = some (v, M')) : W p l e rm_Mo_run s m args below meth c H locs 0 0 (MQ below (fm_Q G 212 shF (some (.int v)) M') args s 0 0 (fm_A G.2.2)) (F0 m 87 ls []) := by
  have hx := C0.1
  have hb := C0.2.1
  unfold j_Mo_run_87 at h
  refine lv_goto (tgt := 23) hx hb d_Mo_run_87 (by decide) ?_
  exact hk23 x0 x1 x2 hP hS (lv_sub hl [0, 1, 2] rfl) h
set_option maxHeartbeats 4000000 in
set_option maxRecDepth 100000 in
theorem w_Mo_run_23 {p : Program} {l : Launch} {e : Env} {s : State} {m : MethodId} {args : Array Value} {below : List Frame} {meth : Method} {c : Code} {G : fm_G} (C0 : fm_C p s m args meth c G (.code y_Mo_run b_Mo_run 4 (some .int)) "AllocationProfilerModel" b_Mo_run 4 (some .int)) {v : Int32} {M' : fm_M} : ∀ (n : Nat) (x0 : Nat) (x1 : Int32) (x2 : Int32) {M : fm_M} {H : Heap} {locs : List Loc}, kP G M H → kS G s H locs → ∀ {ls : Array Slot}, lv_has ls 4 [(0, .ref (G.2.2 + x0)), (1, .int x1), (2, .int x2)] → h_Mo_run_23 n x0 x1 x2 M = some (v, M') → W p l e rm_Mo_run s m args below meth c H locs 0 0 (MQ below (fm_Q G 212 shF (some (.int v)) M') args s 0 0 (fm_A G.2.2)) (F0 m 23 ls []) := by
  have hx := C0.1
  have hb := C0.2.1
  intro n
  induction n with
  | zero =>
    intro x0 x1 x2 M H locs hP hS ls hl h
    exact nomatch h
  | succ n ih =>
    intro x0 x1 x2 M H locs hP hS ls hl h
    have h : (if x1 ≤ x2 then
        some (x2, M)
      else
        (gi x0 10 0 M).bind fun x102 =>
        if x102 = 0 then
          (ck x0 10).bind fun _ =>
          bd (f_Mo_next x0 M) fun x108 M106 =>
          if 0 ≤ x108 then
            (pi x0 10 33 ((x108 + 1) - (x108 + 1) / 3 * 3) M106).bind fun M110 =>
            (ck x0 10).bind fun _ =>
            (f_Mo_execute x0 x108 M110).bind fun M113 =>
            (gi x0 10 34 M113).bind fun x115 =>
            (pi x0 10 34 (x115 + 1) M113).bind fun M117 =>
            (gi x0 10 34 M117).bind fun x119 =>
            if (x119 - x119 / 16 * 16) = 0 then
              (ck x0 10).bind fun _ =>
              (f_Mo_fade x0 M117).bind fun M123 =>
              j_Mo_run_87 (h_Mo_run_23 n) x0 x1 (x2 + 1) M123
            else
              j_Mo_run_87 (h_Mo_run_23 n) x0 x1 (x2 + 1) M117
          else
            some (x2, M106)
        else
          some (x2, M)) = some (v, M') := h
    refine lv_iload_n hx hb d_Mo_run_23 rfl (lv_at hl 2 rfl) ?_
    refine lv_iload_n hx hb d_Mo_run_24 rfl (lv_at hl 1 rfl) ?_
    refine lv_icmp_ge (tgt := 90) hx hb d_Mo_run_25 (by decide) (fun c101 => ?_) (fun c101 => ?_)
    · rw [if_pos c101] at h
      refine lv_iload_n hx hb d_Mo_run_90 rfl (lv_at hl 2 rfl) ?_
      cases h
      exact r_iret C0 hP hS d_Mo_run_91
    · rw [if_neg c101] at h
      refine lv_aload_n hx hb d_Mo_run_28 rfl (lv_at hl 0 rfl) ?_
      obtain ⟨x102, e103, h⟩ := ob h
      refine k_gi C0 F_Mo_122 ik_10_0 hP e103 d_Mo_run_29 ?_
      refine lv_if_ne (tgt := 90) hx hb d_Mo_run_32 (by decide) (fun c104 => ?_) (fun c104 => ?_)
      · rw [if_neg c104] at h
        refine lv_iload_n hx hb d_Mo_run_90 rfl (lv_at hl 2 rfl) ?_
        cases h
        exact r_iret C0 hP hS d_Mo_run_91
      · rw [if_pos c104] at h
        refine lv_aload_n hx hb d_Mo_run_35 rfl (lv_at hl 0 rfl) ?_
        obtain ⟨_, e105, h⟩ := ob h
        obtain ⟨x108, M106, e107, h⟩ := ob2 h
        refine k_cV C0 L_Mo_263 (As := []) (c_Mo_next l G x0 e107) ⟨rfl, rfl⟩ ⟨Nat.le_of_ble_eq_true rfl, Nat.le_of_ble_eq_true rfl⟩ hP hS (ck_of e105) ly_Mo rfl hl.1 rfl (Nat.le_of_ble_eq_true rfl) d_Mo_run_36 ⟨Nat.zero_le _, Nat.zero_le _⟩ (fun H locs hP hS => ?_)
        refine lv_istore_n (lv' := [(3, .int x108), (0, .ref (G.2.2 + x0)), (1, .int x1), (2, .int x2)]) hx hb d_Mo_run_39 rfl hl (by decide) rfl (fun ls hl => ?_)
        refine lv_iload_n hx hb d_Mo_run_40 rfl (lv_at hl 0 rfl) ?_
        refine lv_if_ge (tgt := 46) hx hb d_Mo_run_41 (by decide) (fun c109 => ?_) (fun c109 => ?_)
        · rw [if_pos c109] at h
          refine lv_aload_n hx hb d_Mo_run_46 rfl (lv_at hl 1 rfl) ?_
          refine lv_iload_n hx hb d_Mo_run_47 rfl (lv_at hl 0 rfl) ?_
          refine lv_iconst (v := 1) hx hb d_Mo_run_48 ic_1 ?_
          refine lv_iadd hx hb d_Mo_run_49 ?_
          refine lv_iconst (v := 3) hx hb d_Mo_run_50 ic_3 ?_
          refine lv_irem hx hb d_Mo_run_51 (by decide) ?_
          obtain ⟨M110, e111, h⟩ := ob h
          refine k_pi C0 F_Mo_260p ik_10_33 hP hS e111 d_Mo_run_52 (fun H locs hP hS => ?_)
          refine lv_aload_n hx hb d_Mo_run_55 rfl (lv_at hl 1 rfl) ?_
          refine lv_iload_n hx hb d_Mo_run_56 rfl (lv_at hl 0 rfl) ?_
          obtain ⟨_, e112, h⟩ := ob h
          obtain ⟨M113, e114, h⟩ := ob h
          refine k_cVv C0 L_Mo_266 (As := [.int x108]) (c_Mo_execute l G x0 x108 e114) ⟨rfl, rfl⟩ ⟨Nat.le_of_ble_eq_true rfl, Nat.le_of_ble_eq_true rfl⟩ hP hS (ck_of e112) ly_Mo rfl hl.1 rfl (Nat.le_of_ble_eq_true rfl) d_Mo_run_57 ⟨Nat.zero_le _, Nat.zero_le _⟩ (fun H locs hP hS => ?_)
          refine lv_aload_n hx hb d_Mo_run_60 rfl (lv_at hl 1 rfl) ?_
          refine lv_dup hx hb d_Mo_run_61 rfl ?_
          obtain ⟨x115, e116, h⟩ := ob h
          refine k_gi C0 F_Mo_269 ik_10_34 hP e116 d_Mo_run_62 ?_
          refine lv_iconst (v := 1) hx hb d_Mo_run_65 ic_1 ?_
          refine lv_iadd hx hb d_Mo_run_66 ?_
          obtain ⟨M117, e118, h⟩ := ob h
          refine k_pi C0 F_Mo_269p ik_10_34 hP hS e118 d_Mo_run_67 (fun H locs hP hS => ?_)
          refine lv_iinc (v := (x2 + 1)) (lv' := [(2, .int (x2 + 1)), (3, .int x108), (0, .ref (G.2.2 + x0)), (1, .int x1)]) hx hb d_Mo_run_70 hl (k := 3) rfl (congrArg (fun z => x2 + z) ic_1) (by decide) rfl (fun ls hl => ?_)
          refine lv_aload_n hx hb d_Mo_run_73 rfl (lv_at hl 2 rfl) ?_
          obtain ⟨x119, e120, h⟩ := ob h
          refine k_gi C0 F_Mo_269 ik_10_34 hP e120 d_Mo_run_74 ?_
          refine lv_bipush (v := 16) hx hb d_Mo_run_77 bp_16 ?_
          refine lv_irem hx hb d_Mo_run_79 (by decide) ?_
          refine lv_if_ne (tgt := 87) hx hb d_Mo_run_80 (by decide) (fun c121 => ?_) (fun c121 => ?_)
          · rw [if_neg c121] at h
            exact w_Mo_run_87 C0 (h_Mo_run_23 n) ih x0 x1 (x2 + 1) hP hS (lv_sub hl [2, 3, 0] rfl) h
          · rw [if_pos c121] at h
            refine lv_aload_n hx hb d_Mo_run_83 rfl (lv_at hl 2 rfl) ?_
            obtain ⟨_, e122, h⟩ := ob h
            obtain ⟨M123, e124, h⟩ := ob h
            refine k_cVv C0 L_Mo_272 (As := []) (c_Mo_fade l G x0 e124) ⟨rfl, rfl⟩ ⟨Nat.le_of_ble_eq_true rfl, Nat.le_of_ble_eq_true rfl⟩ hP hS (ck_of e122) ly_Mo rfl hl.1 rfl (Nat.le_of_ble_eq_true rfl) d_Mo_run_84 ⟨Nat.zero_le _, Nat.zero_le _⟩ (fun H locs hP hS => ?_)
            exact w_Mo_run_87 C0 (h_Mo_run_23 n) ih x0 x1 (x2 + 1) hP hS (lv_sub hl [2, 3, 0] rfl) h
        · rw [if_neg c109] at h
          refine lv_iload_n hx hb d_Mo_run_44 rfl (lv_at hl 3 rfl) ?_
          cases h
          exact r_iret C0 hP hS d_Mo_run_45
set_option maxHeartbeats 4000000 in
set_option maxRecDepth 100000 in
theorem w_Mo_run_18 {p : Program} {l : Launch} {e : Env} {s : State} {m : MethodId} {args : Array Value} {below : List Frame} {meth : Method} {c : Code} {G : fm_G} (C0 : fm_C p s m args meth c G (.code y_Mo_run b_Mo_run 4 (some .int)) "AllocationProfilerModel" b_Mo_run 4 (some .int)) {v : Int32} {M' : fm_M} (x0 : Nat) (x1 : Int32) (s0 : Nat) (s1 : Int32) {M : fm_M} {H : Heap} {locs : List Loc} (hP : kP G M H) (hS : kS G s H locs) {ls : Array Slot} (hl : lv_has ls 4 [(0, .ref (G.2.2 + x0)), (1, .int x1)]) (h : j_Mo_run_18 x0 x1 s0 s1 M = some (v, M')) : W p l e rm_Mo_run s m args below meth c H locs 0 0 (MQ below (fm_Q G 212 shF (some (.int v)) M') args s 0 0 (fm_A G.2.2)) (F0 m 18 ls [.int s1, .ref (G.2.2 + s0)]) := by
  have hx := C0.1
  have hb := C0.2.1
  unfold j_Mo_run_18 at h
  obtain ⟨M125, e126, h⟩ := ob h
  refine k_pi C0 F_Mo_122p ik_10_0 hP hS e126 d_Mo_run_18 (fun H locs hP hS => ?_)
  refine lv_iconst (v := 0) hx hb d_Mo_run_21 ic_0 ?_
  refine lv_istore_n (lv' := [(2, .int 0), (0, .ref (G.2.2 + x0)), (1, .int x1)]) hx hb d_Mo_run_22 rfl hl (by decide) rfl (fun ls hl => ?_)
  exact w_Mo_run_23 C0 100000 x0 x1 0 hP hS (lv_sub hl [1, 2, 0] rfl) h
set_option maxHeartbeats 4000000 in
set_option maxRecDepth 100000 in
theorem w_Mo_run_13 {p : Program} {l : Launch} {e : Env} {s : State} {m : MethodId} {args : Array Value} {below : List Frame} {meth : Method} {c : Code} {G : fm_G} (C0 : fm_C p s m args meth c G (.code y_Mo_run b_Mo_run 4 (some .int)) "AllocationProfilerModel" b_Mo_run 4 (some .int)) {v : Int32} {M' : fm_M} (x0 : Nat) (x1 : Int32) (s0 : Nat) {M : fm_M} {H : Heap} {locs : List Loc} (hP : kP G M H) (hS : kS G s H locs) {ls : Array Slot} (hl : lv_has ls 4 [(0, .ref (G.2.2 + x0)), (1, .int x1)]) (h : j_Mo_run_13 x0 x1 s0 M = some (v, M')) : W p l e rm_Mo_run s m args below meth c H locs 0 0 (MQ below (fm_Q G 212 shF (some (.int v)) M') args s 0 0 (fm_A G.2.2)) (F0 m 13 ls [.ref (G.2.2 + s0)]) := by
  have hx := C0.1
  have hb := C0.2.1
  unfold j_Mo_run_13 at h
  refine lv_iconst (v := 1) hx hb d_Mo_run_13 ic_1 ?_
  refine lv_goto (tgt := 18) hx hb d_Mo_run_14 (by decide) ?_
  exact w_Mo_run_18 C0 x0 x1 s0 1 hP hS (lv_sub hl [0, 1] rfl) h
set_option maxHeartbeats 4000000 in
set_option maxRecDepth 100000 in
theorem c_Mo_run (l : Launch) (G : fm_G) (x0 : Nat) (x1 : Int32) {v : Int32} {M M' : fm_M} (h : f_Mo_run x0 x1 M = some (v, M')) : kMet l y_Mo_run b_Mo_run 4 (some .int) rm_Mo_run G M [.ref (G.2.2 + x0), .int x1] (some (.int v)) M' := by
  refine r_met (by decide) rfl (Nat.le_of_ble_eq_true rfl) (fun p e s m args below meth c C0 hP ls hl => ?_)
  have hx := C0.1
  have hb := C0.2.1
  have hl : lv_has ls 4 [(0, .ref (G.2.2 + x0)), (1, .int x1)] := hl
  have hS : va_S (fm_A G.2.2) s.heap s.heap [] := va_S.rf
  unfold f_Mo_run at h
  refine lv_aload_n hx hb d_Mo_run_0 rfl (lv_at hl 0 rfl) ?_
  refine lv_iload_n hx hb d_Mo_run_1 rfl (lv_at hl 1 rfl) ?_
  refine lv_iconst (v := 1) hx hb d_Mo_run_2 ic_1 ?_
  refine lv_icmp_lt (tgt := 13) hx hb d_Mo_run_3 (by decide) (fun c127 => ?_) (fun c127 => ?_)
  · rw [if_pos c127] at h
    exact w_Mo_run_13 C0 x0 x1 x0 hP hS (lv_sub hl [0, 1] rfl) h
  · rw [if_neg c127] at h
    refine lv_iload_n hx hb d_Mo_run_6 rfl (lv_at hl 1 rfl) ?_
    refine lv_sipush (v := 200) hx hb d_Mo_run_7 sp_200 ?_
    refine lv_icmp_le (tgt := 17) hx hb d_Mo_run_10 (by decide) (fun c128 => ?_) (fun c128 => ?_)
    · rw [if_pos c128] at h
      refine lv_iconst (v := 0) hx hb d_Mo_run_17 ic_0 ?_
      exact w_Mo_run_18 C0 x0 x1 x0 0 hP hS (lv_sub hl [0, 1] rfl) h
    · rw [if_neg c128] at h
      exact w_Mo_run_13 C0 x0 x1 x0 hP hS (lv_sub hl [0, 1] rfl) h
/-! AllocationProfilerModel.state -/
def rm_Mo_state : Room := { frames := 1, cells := 0, slots := 0, locals := 21 }
theorem d_Mo_state_0 : decode b_Mo_state 0 = .ok (.aload_n 0, 1) := by decide +kernel
theorem d_Mo_state_1 : decode b_Mo_state 1 = .ok (.iconst 0, 1) := by decide +kernel
theorem d_Mo_state_2 : decode b_Mo_state 2 = .ok (.putfield 122, 3) := by decide +kernel
theorem d_Mo_state_5 : decode b_Mo_state 5 = .ok (.iload_n 1, 1) := by decide +kernel
theorem d_Mo_state_6 : decode b_Mo_state 6 = .ok (.iconst 3, 1) := by decide +kernel
theorem d_Mo_state_7 : decode b_Mo_state 7 = .ok (.invokestatic 128, 3) := by decide +kernel
theorem d_Mo_state_10 : decode b_Mo_state 10 = .ok (.ifCond .eq 11, 3) := by decide +kernel
theorem d_Mo_state_13 : decode b_Mo_state 13 = .ok (.aload_n 0, 1) := by decide +kernel
theorem d_Mo_state_14 : decode b_Mo_state 14 = .ok (.iconst 1, 1) := by decide +kernel
theorem d_Mo_state_15 : decode b_Mo_state 15 = .ok (.invokevirtual 140, 3) := by decide +kernel
theorem d_Mo_state_18 : decode b_Mo_state 18 = .ok (.goto 9, 3) := by decide +kernel
theorem d_Mo_state_21 : decode b_Mo_state 21 = .ok (.aload_n 0, 1) := by decide +kernel
theorem d_Mo_state_22 : decode b_Mo_state 22 = .ok (.getfield 69, 3) := by decide +kernel
theorem d_Mo_state_25 : decode b_Mo_state 25 = .ok (.iload_n 1, 1) := by decide +kernel
theorem d_Mo_state_26 : decode b_Mo_state 26 = .ok (.iaload, 1) := by decide +kernel
theorem d_Mo_state_27 : decode b_Mo_state 27 = .ok (.ireturn, 1) := by decide +kernel
def f_Mo_state (x0 : Nat) (x1 : Int32) (M : fm_M) : Option (Int32 × fm_M) :=
  (pi x0 10 0 0 M).bind fun M101 =>
  bd (f_Mo_out x1 3 M101) fun x105 M103 =>
  if x105 = 0 then
    (gr x0 10 26).bind fun q107 =>
    (ai q107 x1 M103).bind fun x109 =>
    some (x109, M103)
  else
    (ck x0 10).bind fun _ =>
    bd (f_Mo_fail x0 1 M103) fun x114 M112 =>
    some (x114, M112)
set_option maxHeartbeats 4000000 in
set_option maxRecDepth 100000 in
theorem c_Mo_state (l : Launch) (G : fm_G) (x0 : Nat) (x1 : Int32) {v : Int32} {M M' : fm_M} (h : f_Mo_state x0 x1 M = some (v, M')) : kMet l y_Mo_state b_Mo_state 2 (some .int) rm_Mo_state G M [.ref (G.2.2 + x0), .int x1] (some (.int v)) M' := by
  refine r_met (by decide) rfl (Nat.le_of_ble_eq_true rfl) (fun p e s m args below meth c C0 hP ls hl => ?_)
  have hx := C0.1
  have hb := C0.2.1
  have hl : lv_has ls 2 [(0, .ref (G.2.2 + x0)), (1, .int x1)] := hl
  have hS : va_S (fm_A G.2.2) s.heap s.heap [] := va_S.rf
  unfold f_Mo_state at h
  refine lv_aload_n hx hb d_Mo_state_0 rfl (lv_at hl 0 rfl) ?_
  refine lv_iconst (v := 0) hx hb d_Mo_state_1 ic_0 ?_
  obtain ⟨M101, e102, h⟩ := ob h
  refine k_pi C0 F_Mo_122p ik_10_0 hP hS e102 d_Mo_state_2 (fun H locs hP hS => ?_)
  refine lv_iload_n hx hb d_Mo_state_5 rfl (lv_at hl 1 rfl) ?_
  refine lv_iconst (v := 3) hx hb d_Mo_state_6 ic_3 ?_
  obtain ⟨x105, M103, e104, h⟩ := ob2 h
  refine k_cS C0 L_Mo_128 (As := [.int x1, .int 3]) (c_Mo_out l G x1 3 e104) ⟨rfl, rfl⟩ ⟨Nat.le_of_ble_eq_true rfl, Nat.le_of_ble_eq_true rfl⟩ hP hS rfl hl.1 rfl (Nat.le_of_ble_eq_true rfl) d_Mo_state_7 ⟨Nat.zero_le _, Nat.zero_le _⟩ (fun H locs hP hS => ?_)
  refine lv_if_eq (tgt := 21) hx hb d_Mo_state_10 (by decide) (fun c106 => ?_) (fun c106 => ?_)
  · rw [if_pos c106] at h
    refine lv_aload_n hx hb d_Mo_state_21 rfl (lv_at hl 0 rfl) ?_
    obtain ⟨q107, e108, h⟩ := ob h
    refine k_gr C0 F_Mo_69 hP e108 d_Mo_state_22 ?_
    refine lv_iload_n hx hb d_Mo_state_25 rfl (lv_at hl 1 rfl) ?_
    obtain ⟨x109, e110, h⟩ := ob h
    refine k_ai C0 hP e110 d_Mo_state_26 ?_
    cases h
    exact r_iret C0 hP hS d_Mo_state_27
  · rw [if_neg c106] at h
    refine lv_aload_n hx hb d_Mo_state_13 rfl (lv_at hl 0 rfl) ?_
    refine lv_iconst (v := 1) hx hb d_Mo_state_14 ic_1 ?_
    obtain ⟨_, e111, h⟩ := ob h
    obtain ⟨x114, M112, e113, h⟩ := ob2 h
    refine k_cV C0 L_Mo_140 (As := [.int 1]) (c_Mo_fail l G x0 1 e113) ⟨rfl, rfl⟩ ⟨Nat.le_of_ble_eq_true rfl, Nat.le_of_ble_eq_true rfl⟩ hP hS (ck_of e111) ly_Mo rfl hl.1 rfl (Nat.le_of_ble_eq_true rfl) d_Mo_state_15 ⟨Nat.zero_le _, Nat.zero_le _⟩ (fun H locs hP hS => ?_)
    refine lv_goto (tgt := 27) hx hb d_Mo_state_18 (by decide) ?_
    cases h
    exact r_iret C0 hP hS d_Mo_state_27
/-! AllocationProfilerModel.result -/
def rm_Mo_result : Room := { frames := 1, cells := 0, slots := 0, locals := 21 }
theorem d_Mo_result_0 : decode b_Mo_result 0 = .ok (.aload_n 0, 1) := by decide +kernel
theorem d_Mo_result_1 : decode b_Mo_result 1 = .ok (.iconst 0, 1) := by decide +kernel
theorem d_Mo_result_2 : decode b_Mo_result 2 = .ok (.putfield 122, 3) := by decide +kernel
theorem d_Mo_result_5 : decode b_Mo_result 5 = .ok (.iload_n 1, 1) := by decide +kernel
theorem d_Mo_result_6 : decode b_Mo_result 6 = .ok (.iconst 3, 1) := by decide +kernel
theorem d_Mo_result_7 : decode b_Mo_result 7 = .ok (.invokestatic 128, 3) := by decide +kernel
theorem d_Mo_result_10 : decode b_Mo_result 10 = .ok (.ifCond .eq 9, 3) := by decide +kernel
theorem d_Mo_result_13 : decode b_Mo_result 13 = .ok (.aload_n 0, 1) := by decide +kernel
theorem d_Mo_result_14 : decode b_Mo_result 14 = .ok (.iconst 1, 1) := by decide +kernel
theorem d_Mo_result_15 : decode b_Mo_result 15 = .ok (.invokevirtual 140, 3) := by decide +kernel
theorem d_Mo_result_18 : decode b_Mo_result 18 = .ok (.ireturn, 1) := by decide +kernel
theorem d_Mo_result_19 : decode b_Mo_result 19 = .ok (.aload_n 0, 1) := by decide +kernel
theorem d_Mo_result_20 : decode b_Mo_result 20 = .ok (.getfield 69, 3) := by decide +kernel
theorem d_Mo_result_23 : decode b_Mo_result 23 = .ok (.iload_n 1, 1) := by decide +kernel
theorem d_Mo_result_24 : decode b_Mo_result 24 = .ok (.iaload, 1) := by decide +kernel
theorem d_Mo_result_25 : decode b_Mo_result 25 = .ok (.iconst 2, 1) := by decide +kernel
theorem d_Mo_result_26 : decode b_Mo_result 26 = .ok (.if_icmp .ge 11, 3) := by decide +kernel
theorem d_Mo_result_29 : decode b_Mo_result 29 = .ok (.aload_n 0, 1) := by decide +kernel
theorem d_Mo_result_30 : decode b_Mo_result 30 = .ok (.iconst 2, 1) := by decide +kernel
theorem d_Mo_result_31 : decode b_Mo_result 31 = .ok (.invokevirtual 140, 3) := by decide +kernel
theorem d_Mo_result_34 : decode b_Mo_result 34 = .ok (.goto 9, 3) := by decide +kernel
theorem d_Mo_result_37 : decode b_Mo_result 37 = .ok (.aload_n 0, 1) := by decide +kernel
theorem d_Mo_result_38 : decode b_Mo_result 38 = .ok (.getfield 72, 3) := by decide +kernel
theorem d_Mo_result_41 : decode b_Mo_result 41 = .ok (.iload_n 1, 1) := by decide +kernel
theorem d_Mo_result_42 : decode b_Mo_result 42 = .ok (.iaload, 1) := by decide +kernel
theorem d_Mo_result_43 : decode b_Mo_result 43 = .ok (.ireturn, 1) := by decide +kernel
def f_Mo_result (x0 : Nat) (x1 : Int32) (M : fm_M) : Option (Int32 × fm_M) :=
  (pi x0 10 0 0 M).bind fun M101 =>
  bd (f_Mo_out x1 3 M101) fun x105 M103 =>
  if x105 = 0 then
    (gr x0 10 26).bind fun q107 =>
    (ai q107 x1 M103).bind fun x109 =>
    if 2 ≤ x109 then
      (gr x0 10 27).bind fun q112 =>
      (ai q112 x1 M103).bind fun x114 =>
      some (x114, M103)
    else
      (ck x0 10).bind fun _ =>
      bd (f_Mo_fail x0 2 M103) fun x119 M117 =>
      some (x119, M117)
  else
    (ck x0 10).bind fun _ =>
    bd (f_Mo_fail x0 1 M103) fun x123 M121 =>
    some (x123, M121)
set_option maxHeartbeats 4000000 in
set_option maxRecDepth 100000 in
theorem c_Mo_result (l : Launch) (G : fm_G) (x0 : Nat) (x1 : Int32) {v : Int32} {M M' : fm_M} (h : f_Mo_result x0 x1 M = some (v, M')) : kMet l y_Mo_result b_Mo_result 2 (some .int) rm_Mo_result G M [.ref (G.2.2 + x0), .int x1] (some (.int v)) M' := by
  refine r_met (by decide) rfl (Nat.le_of_ble_eq_true rfl) (fun p e s m args below meth c C0 hP ls hl => ?_)
  have hx := C0.1
  have hb := C0.2.1
  have hl : lv_has ls 2 [(0, .ref (G.2.2 + x0)), (1, .int x1)] := hl
  have hS : va_S (fm_A G.2.2) s.heap s.heap [] := va_S.rf
  unfold f_Mo_result at h
  refine lv_aload_n hx hb d_Mo_result_0 rfl (lv_at hl 0 rfl) ?_
  refine lv_iconst (v := 0) hx hb d_Mo_result_1 ic_0 ?_
  obtain ⟨M101, e102, h⟩ := ob h
  refine k_pi C0 F_Mo_122p ik_10_0 hP hS e102 d_Mo_result_2 (fun H locs hP hS => ?_)
  refine lv_iload_n hx hb d_Mo_result_5 rfl (lv_at hl 1 rfl) ?_
  refine lv_iconst (v := 3) hx hb d_Mo_result_6 ic_3 ?_
  obtain ⟨x105, M103, e104, h⟩ := ob2 h
  refine k_cS C0 L_Mo_128 (As := [.int x1, .int 3]) (c_Mo_out l G x1 3 e104) ⟨rfl, rfl⟩ ⟨Nat.le_of_ble_eq_true rfl, Nat.le_of_ble_eq_true rfl⟩ hP hS rfl hl.1 rfl (Nat.le_of_ble_eq_true rfl) d_Mo_result_7 ⟨Nat.zero_le _, Nat.zero_le _⟩ (fun H locs hP hS => ?_)
  refine lv_if_eq (tgt := 19) hx hb d_Mo_result_10 (by decide) (fun c106 => ?_) (fun c106 => ?_)
  · rw [if_pos c106] at h
    refine lv_aload_n hx hb d_Mo_result_19 rfl (lv_at hl 0 rfl) ?_
    obtain ⟨q107, e108, h⟩ := ob h
    refine k_gr C0 F_Mo_69 hP e108 d_Mo_result_20 ?_
    refine lv_iload_n hx hb d_Mo_result_23 rfl (lv_at hl 1 rfl) ?_
    obtain ⟨x109, e110, h⟩ := ob h
    refine k_ai C0 hP e110 d_Mo_result_24 ?_
    refine lv_iconst (v := 2) hx hb d_Mo_result_25 ic_2 ?_
    refine lv_icmp_ge (tgt := 37) hx hb d_Mo_result_26 (by decide) (fun c111 => ?_) (fun c111 => ?_)
    · rw [if_pos c111] at h
      refine lv_aload_n hx hb d_Mo_result_37 rfl (lv_at hl 0 rfl) ?_
      obtain ⟨q112, e113, h⟩ := ob h
      refine k_gr C0 F_Mo_72 hP e113 d_Mo_result_38 ?_
      refine lv_iload_n hx hb d_Mo_result_41 rfl (lv_at hl 1 rfl) ?_
      obtain ⟨x114, e115, h⟩ := ob h
      refine k_ai C0 hP e115 d_Mo_result_42 ?_
      cases h
      exact r_iret C0 hP hS d_Mo_result_43
    · rw [if_neg c111] at h
      refine lv_aload_n hx hb d_Mo_result_29 rfl (lv_at hl 0 rfl) ?_
      refine lv_iconst (v := 2) hx hb d_Mo_result_30 ic_2 ?_
      obtain ⟨_, e116, h⟩ := ob h
      obtain ⟨x119, M117, e118, h⟩ := ob2 h
      refine k_cV C0 L_Mo_140 (As := [.int 2]) (c_Mo_fail l G x0 2 e118) ⟨rfl, rfl⟩ ⟨Nat.le_of_ble_eq_true rfl, Nat.le_of_ble_eq_true rfl⟩ hP hS (ck_of e116) ly_Mo rfl hl.1 rfl (Nat.le_of_ble_eq_true rfl) d_Mo_result_31 ⟨Nat.zero_le _, Nat.zero_le _⟩ (fun H locs hP hS => ?_)
      refine lv_goto (tgt := 43) hx hb d_Mo_result_34 (by decide) ?_
      cases h
      exact r_iret C0 hP hS d_Mo_result_43
  · rw [if_neg c106] at h
    refine lv_aload_n hx hb d_Mo_result_13 rfl (lv_at hl 0 rfl) ?_
    refine lv_iconst (v := 1) hx hb d_Mo_result_14 ic_1 ?_
    obtain ⟨_, e120, h⟩ := ob h
    obtain ⟨x123, M121, e122, h⟩ := ob2 h
    refine k_cV C0 L_Mo_140 (As := [.int 1]) (c_Mo_fail l G x0 1 e122) ⟨rfl, rfl⟩ ⟨Nat.le_of_ble_eq_true rfl, Nat.le_of_ble_eq_true rfl⟩ hP hS (ck_of e120) ly_Mo rfl hl.1 rfl (Nat.le_of_ble_eq_true rfl) d_Mo_result_15 ⟨Nat.zero_le _, Nat.zero_le _⟩ (fun H locs hP hS => ?_)
    cases h
    exact r_iret C0 hP hS d_Mo_result_18
/-! AllocationProfilerModel.object -/
def rm_Mo_object : Room := { frames := 1, cells := 0, slots := 0, locals := 21 }
theorem d_Mo_object_0 : decode b_Mo_object 0 = .ok (.aload_n 0, 1) := by decide +kernel
theorem d_Mo_object_1 : decode b_Mo_object 1 = .ok (.iconst 0, 1) := by decide +kernel
theorem d_Mo_object_2 : decode b_Mo_object 2 = .ok (.putfield 122, 3) := by decide +kernel
theorem d_Mo_object_5 : decode b_Mo_object 5 = .ok (.iload_n 1, 1) := by decide +kernel
theorem d_Mo_object_6 : decode b_Mo_object 6 = .ok (.ifCond .lt 11, 3) := by decide +kernel
theorem d_Mo_object_9 : decode b_Mo_object 9 = .ok (.iload_n 1, 1) := by decide +kernel
theorem d_Mo_object_10 : decode b_Mo_object 10 = .ok (.aload_n 0, 1) := by decide +kernel
theorem d_Mo_object_11 : decode b_Mo_object 11 = .ok (.getfield 224, 3) := by decide +kernel
theorem d_Mo_object_14 : decode b_Mo_object 14 = .ok (.if_icmp .le 9, 3) := by decide +kernel
theorem d_Mo_object_17 : decode b_Mo_object 17 = .ok (.aload_n 0, 1) := by decide +kernel
theorem d_Mo_object_18 : decode b_Mo_object 18 = .ok (.iconst 1, 1) := by decide +kernel
theorem d_Mo_object_19 : decode b_Mo_object 19 = .ok (.invokevirtual 140, 3) := by decide +kernel
theorem d_Mo_object_22 : decode b_Mo_object 22 = .ok (.ireturn, 1) := by decide +kernel
theorem d_Mo_object_23 : decode b_Mo_object 23 = .ok (.iload_n 1, 1) := by decide +kernel
theorem d_Mo_object_24 : decode b_Mo_object 24 = .ok (.ifCond .ne 10, 3) := by decide +kernel
theorem d_Mo_object_27 : decode b_Mo_object 27 = .ok (.aload_n 0, 1) := by decide +kernel
theorem d_Mo_object_28 : decode b_Mo_object 28 = .ok (.getfield 224, 3) := by decide +kernel
theorem d_Mo_object_31 : decode b_Mo_object 31 = .ok (.goto 9, 3) := by decide +kernel
theorem d_Mo_object_34 : decode b_Mo_object 34 = .ok (.aload_n 0, 1) := by decide +kernel
theorem d_Mo_object_35 : decode b_Mo_object 35 = .ok (.getfield 90, 3) := by decide +kernel
theorem d_Mo_object_38 : decode b_Mo_object 38 = .ok (.iload_n 1, 1) := by decide +kernel
theorem d_Mo_object_39 : decode b_Mo_object 39 = .ok (.iaload, 1) := by decide +kernel
theorem d_Mo_object_40 : decode b_Mo_object 40 = .ok (.ireturn, 1) := by decide +kernel
def j_Mo_object_17 (x0 : Nat) (M : fm_M) : Option (Int32 × fm_M) :=
  (ck x0 10).bind fun _ =>
  bd (f_Mo_fail x0 1 M) fun x104 M102 =>
  some (x104, M102)
def f_Mo_object (x0 : Nat) (x1 : Int32) (M : fm_M) : Option (Int32 × fm_M) :=
  (pi x0 10 0 0 M).bind fun M105 =>
  if x1 < 0 then
    j_Mo_object_17 x0 M105
  else
    (gi x0 10 35 M105).bind fun x108 =>
    if x1 ≤ x108 then
      if x1 = 0 then
        (gi x0 10 35 M105).bind fun x116 =>
        some (x116, M105)
      else
        (gr x0 10 36).bind fun q112 =>
        (ai q112 x1 M105).bind fun x114 =>
        some (x114, M105)
    else
      j_Mo_object_17 x0 M105
set_option maxHeartbeats 4000000 in
set_option maxRecDepth 100000 in
theorem w_Mo_object_17 {p : Program} {l : Launch} {e : Env} {s : State} {m : MethodId} {args : Array Value} {below : List Frame} {meth : Method} {c : Code} {G : fm_G} (C0 : fm_C p s m args meth c G (.code y_Mo_object b_Mo_object 2 (some .int)) "AllocationProfilerModel" b_Mo_object 2 (some .int)) {v : Int32} {M' : fm_M} (x0 : Nat) {M : fm_M} {H : Heap} {locs : List Loc} (hP : kP G M H) (hS : kS G s H locs) {ls : Array Slot} (hl : lv_has ls 2 [(0, .ref (G.2.2 + x0))]) (h : j_Mo_object_17 x0 M = some (v, M')) : W p l e rm_Mo_object s m args below meth c H locs 0 0 (MQ below (fm_Q G 212 shF (some (.int v)) M') args s 0 0 (fm_A G.2.2)) (F0 m 17 ls []) := by
  have hx := C0.1
  have hb := C0.2.1
  unfold j_Mo_object_17 at h
  refine lv_aload_n hx hb d_Mo_object_17 rfl (lv_at hl 0 rfl) ?_
  refine lv_iconst (v := 1) hx hb d_Mo_object_18 ic_1 ?_
  obtain ⟨_, e101, h⟩ := ob h
  obtain ⟨x104, M102, e103, h⟩ := ob2 h
  refine k_cV C0 L_Mo_140 (As := [.int 1]) (c_Mo_fail l G x0 1 e103) ⟨rfl, rfl⟩ ⟨Nat.le_of_ble_eq_true rfl, Nat.le_of_ble_eq_true rfl⟩ hP hS (ck_of e101) ly_Mo rfl hl.1 rfl (Nat.le_of_ble_eq_true rfl) d_Mo_object_19 ⟨Nat.zero_le _, Nat.zero_le _⟩ (fun H locs hP hS => ?_)
  cases h
  exact r_iret C0 hP hS d_Mo_object_22
set_option maxHeartbeats 4000000 in
set_option maxRecDepth 100000 in
theorem c_Mo_object (l : Launch) (G : fm_G) (x0 : Nat) (x1 : Int32) {v : Int32} {M M' : fm_M} (h : f_Mo_object x0 x1 M = some (v, M')) : kMet l y_Mo_object b_Mo_object 2 (some .int) rm_Mo_object G M [.ref (G.2.2 + x0), .int x1] (some (.int v)) M' := by
  refine r_met (by decide) rfl (Nat.le_of_ble_eq_true rfl) (fun p e s m args below meth c C0 hP ls hl => ?_)
  have hx := C0.1
  have hb := C0.2.1
  have hl : lv_has ls 2 [(0, .ref (G.2.2 + x0)), (1, .int x1)] := hl
  have hS : va_S (fm_A G.2.2) s.heap s.heap [] := va_S.rf
  unfold f_Mo_object at h
  refine lv_aload_n hx hb d_Mo_object_0 rfl (lv_at hl 0 rfl) ?_
  refine lv_iconst (v := 0) hx hb d_Mo_object_1 ic_0 ?_
  obtain ⟨M105, e106, h⟩ := ob h
  refine k_pi C0 F_Mo_122p ik_10_0 hP hS e106 d_Mo_object_2 (fun H locs hP hS => ?_)
  refine lv_iload_n hx hb d_Mo_object_5 rfl (lv_at hl 1 rfl) ?_
  refine lv_if_lt (tgt := 17) hx hb d_Mo_object_6 (by decide) (fun c107 => ?_) (fun c107 => ?_)
  · rw [if_pos c107] at h
    exact w_Mo_object_17 C0 x0 hP hS (lv_sub hl [0] rfl) h
  · rw [if_neg c107] at h
    refine lv_iload_n hx hb d_Mo_object_9 rfl (lv_at hl 1 rfl) ?_
    refine lv_aload_n hx hb d_Mo_object_10 rfl (lv_at hl 0 rfl) ?_
    obtain ⟨x108, e109, h⟩ := ob h
    refine k_gi C0 F_Mo_224 ik_10_35 hP e109 d_Mo_object_11 ?_
    refine lv_icmp_le (tgt := 23) hx hb d_Mo_object_14 (by decide) (fun c110 => ?_) (fun c110 => ?_)
    · rw [if_pos c110] at h
      refine lv_iload_n hx hb d_Mo_object_23 rfl (lv_at hl 1 rfl) ?_
      refine lv_if_ne (tgt := 34) hx hb d_Mo_object_24 (by decide) (fun c111 => ?_) (fun c111 => ?_)
      · rw [if_neg c111] at h
        refine lv_aload_n hx hb d_Mo_object_34 rfl (lv_at hl 0 rfl) ?_
        obtain ⟨q112, e113, h⟩ := ob h
        refine k_gr C0 F_Mo_90 hP e113 d_Mo_object_35 ?_
        refine lv_iload_n hx hb d_Mo_object_38 rfl (lv_at hl 1 rfl) ?_
        obtain ⟨x114, e115, h⟩ := ob h
        refine k_ai C0 hP e115 d_Mo_object_39 ?_
        cases h
        exact r_iret C0 hP hS d_Mo_object_40
      · rw [if_pos c111] at h
        refine lv_aload_n hx hb d_Mo_object_27 rfl (lv_at hl 0 rfl) ?_
        obtain ⟨x116, e117, h⟩ := ob h
        refine k_gi C0 F_Mo_224 ik_10_35 hP e117 d_Mo_object_28 ?_
        refine lv_goto (tgt := 40) hx hb d_Mo_object_31 (by decide) ?_
        cases h
        exact r_iret C0 hP hS d_Mo_object_40
    · rw [if_neg c110] at h
      exact w_Mo_object_17 C0 x0 hP hS (lv_sub hl [0] rfl) h
/-! AllocationProfilerModel.count -/
def rm_Mo_count : Room := { frames := 1, cells := 0, slots := 0, locals := 21 }
theorem d_Mo_count_0 : decode b_Mo_count 0 = .ok (.aload_n 0, 1) := by decide +kernel
theorem d_Mo_count_1 : decode b_Mo_count 1 = .ok (.iconst 0, 1) := by decide +kernel
theorem d_Mo_count_2 : decode b_Mo_count 2 = .ok (.putfield 122, 3) := by decide +kernel
theorem d_Mo_count_5 : decode b_Mo_count 5 = .ok (.iload_n 1, 1) := by decide +kernel
theorem d_Mo_count_6 : decode b_Mo_count 6 = .ok (.aload_n 0, 1) := by decide +kernel
theorem d_Mo_count_7 : decode b_Mo_count 7 = .ok (.getfield 192, 3) := by decide +kernel
theorem d_Mo_count_10 : decode b_Mo_count 10 = .ok (.invokestatic 128, 3) := by decide +kernel
theorem d_Mo_count_13 : decode b_Mo_count 13 = .ok (.ifCond .ne 21, 3) := by decide +kernel
theorem d_Mo_count_16 : decode b_Mo_count 16 = .ok (.iload_n 2, 1) := by decide +kernel
theorem d_Mo_count_17 : decode b_Mo_count 17 = .ok (.iconst (-1), 1) := by decide +kernel
theorem d_Mo_count_18 : decode b_Mo_count 18 = .ok (.if_icmp .lt 16, 3) := by decide +kernel
theorem d_Mo_count_21 : decode b_Mo_count 21 = .ok (.iload_n 2, 1) := by decide +kernel
theorem d_Mo_count_22 : decode b_Mo_count 22 = .ok (.iconst 2, 1) := by decide +kernel
theorem d_Mo_count_23 : decode b_Mo_count 23 = .ok (.if_icmp .gt 11, 3) := by decide +kernel
theorem d_Mo_count_26 : decode b_Mo_count 26 = .ok (.iload_n 3, 1) := by decide +kernel
theorem d_Mo_count_27 : decode b_Mo_count 27 = .ok (.iconst 3, 1) := by decide +kernel
theorem d_Mo_count_28 : decode b_Mo_count 28 = .ok (.invokestatic 128, 3) := by decide +kernel
theorem d_Mo_count_31 : decode b_Mo_count 31 = .ok (.ifCond .eq 10, 3) := by decide +kernel
theorem d_Mo_count_34 : decode b_Mo_count 34 = .ok (.aload_n 0, 1) := by decide +kernel
theorem d_Mo_count_35 : decode b_Mo_count 35 = .ok (.iconst 1, 1) := by decide +kernel
theorem d_Mo_count_36 : decode b_Mo_count 36 = .ok (.invokevirtual 140, 3) := by decide +kernel
theorem d_Mo_count_39 : decode b_Mo_count 39 = .ok (.i2l, 1) := by decide +kernel
theorem d_Mo_count_40 : decode b_Mo_count 40 = .ok (.lreturn, 1) := by decide +kernel
theorem d_Mo_count_41 : decode b_Mo_count 41 = .ok (.iload_n 3, 1) := by decide +kernel
theorem d_Mo_count_42 : decode b_Mo_count 42 = .ok (.iconst 2, 1) := by decide +kernel
theorem d_Mo_count_43 : decode b_Mo_count 43 = .ok (.if_icmp .ne 24, 3) := by decide +kernel
theorem d_Mo_count_46 : decode b_Mo_count 46 = .ok (.iload_n 2, 1) := by decide +kernel
theorem d_Mo_count_47 : decode b_Mo_count 47 = .ok (.ifCond .ge 13, 3) := by decide +kernel
theorem d_Mo_count_50 : decode b_Mo_count 50 = .ok (.aload_n 0, 1) := by decide +kernel
theorem d_Mo_count_51 : decode b_Mo_count 51 = .ok (.getfield 100, 3) := by decide +kernel
theorem d_Mo_count_54 : decode b_Mo_count 54 = .ok (.iload_n 1, 1) := by decide +kernel
theorem d_Mo_count_55 : decode b_Mo_count 55 = .ok (.iaload, 1) := by decide +kernel
theorem d_Mo_count_56 : decode b_Mo_count 56 = .ok (.i2l, 1) := by decide +kernel
theorem d_Mo_count_57 : decode b_Mo_count 57 = .ok (.goto 9, 3) := by decide +kernel
theorem d_Mo_count_60 : decode b_Mo_count 60 = .ok (.aload_n 0, 1) := by decide +kernel
theorem d_Mo_count_61 : decode b_Mo_count 61 = .ok (.iconst 2, 1) := by decide +kernel
theorem d_Mo_count_62 : decode b_Mo_count 62 = .ok (.invokevirtual 140, 3) := by decide +kernel
theorem d_Mo_count_65 : decode b_Mo_count 65 = .ok (.i2l, 1) := by decide +kernel
theorem d_Mo_count_66 : decode b_Mo_count 66 = .ok (.lreturn, 1) := by decide +kernel
theorem d_Mo_count_67 : decode b_Mo_count 67 = .ok (.iload_n 3, 1) := by decide +kernel
theorem d_Mo_count_68 : decode b_Mo_count 68 = .ok (.ifCond .ne 29, 3) := by decide +kernel
theorem d_Mo_count_71 : decode b_Mo_count 71 = .ok (.iload_n 2, 1) := by decide +kernel
theorem d_Mo_count_72 : decode b_Mo_count 72 = .ok (.ifCond .ge 14, 3) := by decide +kernel
theorem d_Mo_count_75 : decode b_Mo_count 75 = .ok (.aload_n 0, 1) := by decide +kernel
theorem d_Mo_count_76 : decode b_Mo_count 76 = .ok (.getfield 93, 3) := by decide +kernel
theorem d_Mo_count_79 : decode b_Mo_count 79 = .ok (.iload_n 1, 1) := by decide +kernel
theorem d_Mo_count_80 : decode b_Mo_count 80 = .ok (.invokestatic 275, 3) := by decide +kernel
theorem d_Mo_count_83 : decode b_Mo_count 83 = .ok (.goto 13, 3) := by decide +kernel
theorem d_Mo_count_86 : decode b_Mo_count 86 = .ok (.aload_n 0, 1) := by decide +kernel
theorem d_Mo_count_87 : decode b_Mo_count 87 = .ok (.getfield 93, 3) := by decide +kernel
theorem d_Mo_count_90 : decode b_Mo_count 90 = .ok (.iconst 3, 1) := by decide +kernel
theorem d_Mo_count_91 : decode b_Mo_count 91 = .ok (.iload_n 1, 1) := by decide +kernel
theorem d_Mo_count_92 : decode b_Mo_count 92 = .ok (.imul, 1) := by decide +kernel
theorem d_Mo_count_93 : decode b_Mo_count 93 = .ok (.iload_n 2, 1) := by decide +kernel
theorem d_Mo_count_94 : decode b_Mo_count 94 = .ok (.iadd, 1) := by decide +kernel
theorem d_Mo_count_95 : decode b_Mo_count 95 = .ok (.laload, 1) := by decide +kernel
theorem d_Mo_count_96 : decode b_Mo_count 96 = .ok (.lreturn, 1) := by decide +kernel
theorem d_Mo_count_97 : decode b_Mo_count 97 = .ok (.iload_n 2, 1) := by decide +kernel
theorem d_Mo_count_98 : decode b_Mo_count 98 = .ok (.ifCond .ge 14, 3) := by decide +kernel
theorem d_Mo_count_101 : decode b_Mo_count 101 = .ok (.aload_n 0, 1) := by decide +kernel
theorem d_Mo_count_102 : decode b_Mo_count 102 = .ok (.getfield 97, 3) := by decide +kernel
theorem d_Mo_count_105 : decode b_Mo_count 105 = .ok (.iload_n 1, 1) := by decide +kernel
theorem d_Mo_count_106 : decode b_Mo_count 106 = .ok (.invokestatic 275, 3) := by decide +kernel
theorem d_Mo_count_109 : decode b_Mo_count 109 = .ok (.goto 13, 3) := by decide +kernel
theorem d_Mo_count_112 : decode b_Mo_count 112 = .ok (.aload_n 0, 1) := by decide +kernel
theorem d_Mo_count_113 : decode b_Mo_count 113 = .ok (.getfield 97, 3) := by decide +kernel
theorem d_Mo_count_116 : decode b_Mo_count 116 = .ok (.iconst 3, 1) := by decide +kernel
theorem d_Mo_count_117 : decode b_Mo_count 117 = .ok (.iload_n 1, 1) := by decide +kernel
theorem d_Mo_count_118 : decode b_Mo_count 118 = .ok (.imul, 1) := by decide +kernel
theorem d_Mo_count_119 : decode b_Mo_count 119 = .ok (.iload_n 2, 1) := by decide +kernel
theorem d_Mo_count_120 : decode b_Mo_count 120 = .ok (.iadd, 1) := by decide +kernel
theorem d_Mo_count_121 : decode b_Mo_count 121 = .ok (.laload, 1) := by decide +kernel
theorem d_Mo_count_122 : decode b_Mo_count 122 = .ok (.lreturn, 1) := by decide +kernel
def j_Mo_count_34 (x0 : Nat) (M : fm_M) : Option (Int64 × fm_M) :=
  (ck x0 10).bind fun _ =>
  bd (f_Mo_fail x0 1 M) fun x104 M102 =>
  some (x104.toInt64, M102)
def f_Mo_count (x0 : Nat) (x1 : Int32) (x2 : Int32) (x3 : Int32) (M : fm_M) : Option (Int64 × fm_M) :=
  (pi x0 10 0 0 M).bind fun M105 =>
  (gi x0 10 23 M105).bind fun x107 =>
  bd (f_Mo_out x1 x107 M105) fun x111 M109 =>
  if x111 = 0 then
    if x2 < (-1) then
      j_Mo_count_34 x0 M109
    else
      if 2 < x2 then
        j_Mo_count_34 x0 M109
      else
        bd (f_Mo_out x3 3 M109) fun x117 M115 =>
        if x117 = 0 then
          if x3 = 2 then
            if 0 ≤ x2 then
              (ck x0 10).bind fun _ =>
              bd (f_Mo_fail x0 2 M115) fun x145 M143 =>
              some (x145.toInt64, M143)
            else
              (gr x0 10 39).bind fun q146 =>
              (ai q146 x1 M115).bind fun x148 =>
              some (x148.toInt64, M115)
          else
            if x3 = 0 then
              if 0 ≤ x2 then
                (gr x0 10 37).bind fun q132 =>
                (aj q132 ((3 * x1) + x2) M115).bind fun x134 =>
                some (x134, M115)
              else
                (gr x0 10 37).bind fun q136 =>
                bd (f_Mo_all q136 x1 M115) fun x140 M138 =>
                some (x140, M138)
            else
              if 0 ≤ x2 then
                (gr x0 10 38).bind fun q122 =>
                (aj q122 ((3 * x1) + x2) M115).bind fun x124 =>
                some (x124, M115)
              else
                (gr x0 10 38).bind fun q126 =>
                bd (f_Mo_all q126 x1 M115) fun x130 M128 =>
                some (x130, M128)
        else
          j_Mo_count_34 x0 M115
  else
    j_Mo_count_34 x0 M109
set_option maxHeartbeats 4000000 in
set_option maxRecDepth 100000 in
theorem w_Mo_count_34 {p : Program} {l : Launch} {e : Env} {s : State} {m : MethodId} {args : Array Value} {below : List Frame} {meth : Method} {c : Code} {G : fm_G} (C0 : fm_C p s m args meth c G (.code y_Mo_count b_Mo_count 4 (some .long)) "AllocationProfilerModel" b_Mo_count 4 (some .long)) {v : Int64} {M' : fm_M} (x0 : Nat) {M : fm_M} {H : Heap} {locs : List Loc} (hP : kP G M H) (hS : kS G s H locs) {ls : Array Slot} (hl : lv_has ls 4 [(0, .ref (G.2.2 + x0))]) (h : j_Mo_count_34 x0 M = some (v, M')) : W p l e rm_Mo_count s m args below meth c H locs 0 0 (MQ below (fm_Q G 212 shF (some (.long v)) M') args s 0 0 (fm_A G.2.2)) (F0 m 34 ls []) := by
  have hx := C0.1
  have hb := C0.2.1
  unfold j_Mo_count_34 at h
  refine lv_aload_n hx hb d_Mo_count_34 rfl (lv_at hl 0 rfl) ?_
  refine lv_iconst (v := 1) hx hb d_Mo_count_35 ic_1 ?_
  obtain ⟨_, e101, h⟩ := ob h
  obtain ⟨x104, M102, e103, h⟩ := ob2 h
  refine k_cV C0 L_Mo_140 (As := [.int 1]) (c_Mo_fail l G x0 1 e103) ⟨rfl, rfl⟩ ⟨Nat.le_of_ble_eq_true rfl, Nat.le_of_ble_eq_true rfl⟩ hP hS (ck_of e101) ly_Mo rfl hl.1 rfl (Nat.le_of_ble_eq_true rfl) d_Mo_count_36 ⟨Nat.zero_le _, Nat.zero_le _⟩ (fun H locs hP hS => ?_)
  refine lv_i2l hx hb d_Mo_count_39 rfl ?_
  cases h
  exact r_lret C0 hP hS d_Mo_count_40
set_option maxHeartbeats 4000000 in
set_option maxRecDepth 100000 in
theorem c_Mo_count (l : Launch) (G : fm_G) (x0 : Nat) (x1 : Int32) (x2 : Int32) (x3 : Int32) {v : Int64} {M M' : fm_M} (h : f_Mo_count x0 x1 x2 x3 M = some (v, M')) : kMet l y_Mo_count b_Mo_count 4 (some .long) rm_Mo_count G M [.ref (G.2.2 + x0), .int x1, .int x2, .int x3] (some (.long v)) M' := by
  refine r_met (by decide) rfl (Nat.le_of_ble_eq_true rfl) (fun p e s m args below meth c C0 hP ls hl => ?_)
  have hx := C0.1
  have hb := C0.2.1
  have hl : lv_has ls 4 [(0, .ref (G.2.2 + x0)), (1, .int x1), (2, .int x2), (3, .int x3)] := hl
  have hS : va_S (fm_A G.2.2) s.heap s.heap [] := va_S.rf
  unfold f_Mo_count at h
  refine lv_aload_n hx hb d_Mo_count_0 rfl (lv_at hl 0 rfl) ?_
  refine lv_iconst (v := 0) hx hb d_Mo_count_1 ic_0 ?_
  obtain ⟨M105, e106, h⟩ := ob h
  refine k_pi C0 F_Mo_122p ik_10_0 hP hS e106 d_Mo_count_2 (fun H locs hP hS => ?_)
  refine lv_iload_n hx hb d_Mo_count_5 rfl (lv_at hl 1 rfl) ?_
  refine lv_aload_n hx hb d_Mo_count_6 rfl (lv_at hl 0 rfl) ?_
  obtain ⟨x107, e108, h⟩ := ob h
  refine k_gi C0 F_Mo_192 ik_10_23 hP e108 d_Mo_count_7 ?_
  obtain ⟨x111, M109, e110, h⟩ := ob2 h
  refine k_cS C0 L_Mo_128 (As := [.int x1, .int x107]) (c_Mo_out l G x1 x107 e110) ⟨rfl, rfl⟩ ⟨Nat.le_of_ble_eq_true rfl, Nat.le_of_ble_eq_true rfl⟩ hP hS rfl hl.1 rfl (Nat.le_of_ble_eq_true rfl) d_Mo_count_10 ⟨Nat.zero_le _, Nat.zero_le _⟩ (fun H locs hP hS => ?_)
  refine lv_if_ne (tgt := 34) hx hb d_Mo_count_13 (by decide) (fun c112 => ?_) (fun c112 => ?_)
  · rw [if_neg c112] at h
    exact w_Mo_count_34 C0 x0 hP hS (lv_sub hl [0] rfl) h
  · rw [if_pos c112] at h
    refine lv_iload_n hx hb d_Mo_count_16 rfl (lv_at hl 2 rfl) ?_
    refine lv_iconst (v := (-1)) hx hb d_Mo_count_17 ic_m1 ?_
    refine lv_icmp_lt (tgt := 34) hx hb d_Mo_count_18 (by decide) (fun c113 => ?_) (fun c113 => ?_)
    · rw [if_pos c113] at h
      exact w_Mo_count_34 C0 x0 hP hS (lv_sub hl [0] rfl) h
    · rw [if_neg c113] at h
      refine lv_iload_n hx hb d_Mo_count_21 rfl (lv_at hl 2 rfl) ?_
      refine lv_iconst (v := 2) hx hb d_Mo_count_22 ic_2 ?_
      refine lv_icmp_gt (tgt := 34) hx hb d_Mo_count_23 (by decide) (fun c114 => ?_) (fun c114 => ?_)
      · rw [if_pos c114] at h
        exact w_Mo_count_34 C0 x0 hP hS (lv_sub hl [0] rfl) h
      · rw [if_neg c114] at h
        refine lv_iload_n hx hb d_Mo_count_26 rfl (lv_at hl 3 rfl) ?_
        refine lv_iconst (v := 3) hx hb d_Mo_count_27 ic_3 ?_
        obtain ⟨x117, M115, e116, h⟩ := ob2 h
        refine k_cS C0 L_Mo_128 (As := [.int x3, .int 3]) (c_Mo_out l G x3 3 e116) ⟨rfl, rfl⟩ ⟨Nat.le_of_ble_eq_true rfl, Nat.le_of_ble_eq_true rfl⟩ hP hS rfl hl.1 rfl (Nat.le_of_ble_eq_true rfl) d_Mo_count_28 ⟨Nat.zero_le _, Nat.zero_le _⟩ (fun H locs hP hS => ?_)
        refine lv_if_eq (tgt := 41) hx hb d_Mo_count_31 (by decide) (fun c118 => ?_) (fun c118 => ?_)
        · rw [if_pos c118] at h
          refine lv_iload_n hx hb d_Mo_count_41 rfl (lv_at hl 3 rfl) ?_
          refine lv_iconst (v := 2) hx hb d_Mo_count_42 ic_2 ?_
          refine lv_icmp_ne (tgt := 67) hx hb d_Mo_count_43 (by decide) (fun c119 => ?_) (fun c119 => ?_)
          · rw [if_neg c119] at h
            refine lv_iload_n hx hb d_Mo_count_67 rfl (lv_at hl 3 rfl) ?_
            refine lv_if_ne (tgt := 97) hx hb d_Mo_count_68 (by decide) (fun c120 => ?_) (fun c120 => ?_)
            · rw [if_neg c120] at h
              refine lv_iload_n hx hb d_Mo_count_97 rfl (lv_at hl 2 rfl) ?_
              refine lv_if_ge (tgt := 112) hx hb d_Mo_count_98 (by decide) (fun c121 => ?_) (fun c121 => ?_)
              · rw [if_pos c121] at h
                refine lv_aload_n hx hb d_Mo_count_112 rfl (lv_at hl 0 rfl) ?_
                obtain ⟨q122, e123, h⟩ := ob h
                refine k_gr C0 F_Mo_97 hP e123 d_Mo_count_113 ?_
                refine lv_iconst (v := 3) hx hb d_Mo_count_116 ic_3 ?_
                refine lv_iload_n hx hb d_Mo_count_117 rfl (lv_at hl 1 rfl) ?_
                refine lv_imul hx hb d_Mo_count_118 ?_
                refine lv_iload_n hx hb d_Mo_count_119 rfl (lv_at hl 2 rfl) ?_
                refine lv_iadd hx hb d_Mo_count_120 ?_
                obtain ⟨x124, e125, h⟩ := ob h
                refine k_aj C0 hP e125 d_Mo_count_121 ?_
                cases h
                exact r_lret C0 hP hS d_Mo_count_122
              · rw [if_neg c121] at h
                refine lv_aload_n hx hb d_Mo_count_101 rfl (lv_at hl 0 rfl) ?_
                obtain ⟨q126, e127, h⟩ := ob h
                refine k_gr C0 F_Mo_97 hP e127 d_Mo_count_102 ?_
                refine lv_iload_n hx hb d_Mo_count_105 rfl (lv_at hl 1 rfl) ?_
                obtain ⟨x130, M128, e129, h⟩ := ob2 h
                refine k_cS C0 L_Mo_275 (As := [.ref (G.2.2 + q126), .int x1]) (c_Mo_all l G q126 x1 e129) ⟨rfl, rfl⟩ ⟨Nat.le_of_ble_eq_true rfl, Nat.le_of_ble_eq_true rfl⟩ hP hS rfl hl.1 rfl (Nat.le_of_ble_eq_true rfl) d_Mo_count_106 ⟨Nat.zero_le _, Nat.zero_le _⟩ (fun H locs hP hS => ?_)
                refine lv_goto (tgt := 122) hx hb d_Mo_count_109 (by decide) ?_
                cases h
                exact r_lret C0 hP hS d_Mo_count_122
            · rw [if_pos c120] at h
              refine lv_iload_n hx hb d_Mo_count_71 rfl (lv_at hl 2 rfl) ?_
              refine lv_if_ge (tgt := 86) hx hb d_Mo_count_72 (by decide) (fun c131 => ?_) (fun c131 => ?_)
              · rw [if_pos c131] at h
                refine lv_aload_n hx hb d_Mo_count_86 rfl (lv_at hl 0 rfl) ?_
                obtain ⟨q132, e133, h⟩ := ob h
                refine k_gr C0 F_Mo_93 hP e133 d_Mo_count_87 ?_
                refine lv_iconst (v := 3) hx hb d_Mo_count_90 ic_3 ?_
                refine lv_iload_n hx hb d_Mo_count_91 rfl (lv_at hl 1 rfl) ?_
                refine lv_imul hx hb d_Mo_count_92 ?_
                refine lv_iload_n hx hb d_Mo_count_93 rfl (lv_at hl 2 rfl) ?_
                refine lv_iadd hx hb d_Mo_count_94 ?_
                obtain ⟨x134, e135, h⟩ := ob h
                refine k_aj C0 hP e135 d_Mo_count_95 ?_
                cases h
                exact r_lret C0 hP hS d_Mo_count_96
              · rw [if_neg c131] at h
                refine lv_aload_n hx hb d_Mo_count_75 rfl (lv_at hl 0 rfl) ?_
                obtain ⟨q136, e137, h⟩ := ob h
                refine k_gr C0 F_Mo_93 hP e137 d_Mo_count_76 ?_
                refine lv_iload_n hx hb d_Mo_count_79 rfl (lv_at hl 1 rfl) ?_
                obtain ⟨x140, M138, e139, h⟩ := ob2 h
                refine k_cS C0 L_Mo_275 (As := [.ref (G.2.2 + q136), .int x1]) (c_Mo_all l G q136 x1 e139) ⟨rfl, rfl⟩ ⟨Nat.le_of_ble_eq_true rfl, Nat.le_of_ble_eq_true rfl⟩ hP hS rfl hl.1 rfl (Nat.le_of_ble_eq_true rfl) d_Mo_count_80 ⟨Nat.zero_le _, Nat.zero_le _⟩ (fun H locs hP hS => ?_)
                refine lv_goto (tgt := 96) hx hb d_Mo_count_83 (by decide) ?_
                cases h
                exact r_lret C0 hP hS d_Mo_count_96
          · rw [if_pos c119] at h
            refine lv_iload_n hx hb d_Mo_count_46 rfl (lv_at hl 2 rfl) ?_
            refine lv_if_ge (tgt := 60) hx hb d_Mo_count_47 (by decide) (fun c141 => ?_) (fun c141 => ?_)
            · rw [if_pos c141] at h
              refine lv_aload_n hx hb d_Mo_count_60 rfl (lv_at hl 0 rfl) ?_
              refine lv_iconst (v := 2) hx hb d_Mo_count_61 ic_2 ?_
              obtain ⟨_, e142, h⟩ := ob h
              obtain ⟨x145, M143, e144, h⟩ := ob2 h
              refine k_cV C0 L_Mo_140 (As := [.int 2]) (c_Mo_fail l G x0 2 e144) ⟨rfl, rfl⟩ ⟨Nat.le_of_ble_eq_true rfl, Nat.le_of_ble_eq_true rfl⟩ hP hS (ck_of e142) ly_Mo rfl hl.1 rfl (Nat.le_of_ble_eq_true rfl) d_Mo_count_62 ⟨Nat.zero_le _, Nat.zero_le _⟩ (fun H locs hP hS => ?_)
              refine lv_i2l hx hb d_Mo_count_65 rfl ?_
              cases h
              exact r_lret C0 hP hS d_Mo_count_66
            · rw [if_neg c141] at h
              refine lv_aload_n hx hb d_Mo_count_50 rfl (lv_at hl 0 rfl) ?_
              obtain ⟨q146, e147, h⟩ := ob h
              refine k_gr C0 F_Mo_100 hP e147 d_Mo_count_51 ?_
              refine lv_iload_n hx hb d_Mo_count_54 rfl (lv_at hl 1 rfl) ?_
              obtain ⟨x148, e149, h⟩ := ob h
              refine k_ai C0 hP e149 d_Mo_count_55 ?_
              refine lv_i2l hx hb d_Mo_count_56 rfl ?_
              refine lv_goto (tgt := 66) hx hb d_Mo_count_57 (by decide) ?_
              cases h
              exact r_lret C0 hP hS d_Mo_count_66
        · rw [if_neg c118] at h
          exact w_Mo_count_34 C0 x0 hP hS (lv_sub hl [0] rfl) h
/-! AllocationProfilerModel.entry -/
def rm_Mo_entry : Room := { frames := 1, cells := 0, slots := 0, locals := 21 }
theorem d_Mo_entry_0 : decode b_Mo_entry 0 = .ok (.aload_n 0, 1) := by decide +kernel
theorem d_Mo_entry_1 : decode b_Mo_entry 1 = .ok (.iconst 0, 1) := by decide +kernel
theorem d_Mo_entry_2 : decode b_Mo_entry 2 = .ok (.putfield 122, 3) := by decide +kernel
theorem d_Mo_entry_5 : decode b_Mo_entry 5 = .ok (.iload_n 2, 1) := by decide +kernel
theorem d_Mo_entry_6 : decode b_Mo_entry 6 = .ok (.iconst 3, 1) := by decide +kernel
theorem d_Mo_entry_7 : decode b_Mo_entry 7 = .ok (.invokestatic 128, 3) := by decide +kernel
theorem d_Mo_entry_10 : decode b_Mo_entry 10 = .ok (.ifCond .eq 9, 3) := by decide +kernel
theorem d_Mo_entry_13 : decode b_Mo_entry 13 = .ok (.aload_n 0, 1) := by decide +kernel
theorem d_Mo_entry_14 : decode b_Mo_entry 14 = .ok (.iconst 1, 1) := by decide +kernel
theorem d_Mo_entry_15 : decode b_Mo_entry 15 = .ok (.invokevirtual 140, 3) := by decide +kernel
theorem d_Mo_entry_18 : decode b_Mo_entry 18 = .ok (.ireturn, 1) := by decide +kernel
theorem d_Mo_entry_19 : decode b_Mo_entry 19 = .ok (.iload_n 1, 1) := by decide +kernel
theorem d_Mo_entry_20 : decode b_Mo_entry 20 = .ok (.aload_n 0, 1) := by decide +kernel
theorem d_Mo_entry_21 : decode b_Mo_entry 21 = .ok (.getfield 219, 3) := by decide +kernel
theorem d_Mo_entry_24 : decode b_Mo_entry 24 = .ok (.invokestatic 128, 3) := by decide +kernel
theorem d_Mo_entry_27 : decode b_Mo_entry 27 = .ok (.ifCond .eq 9, 3) := by decide +kernel
theorem d_Mo_entry_30 : decode b_Mo_entry 30 = .ok (.aload_n 0, 1) := by decide +kernel
theorem d_Mo_entry_31 : decode b_Mo_entry 31 = .ok (.iconst 2, 1) := by decide +kernel
theorem d_Mo_entry_32 : decode b_Mo_entry 32 = .ok (.invokevirtual 140, 3) := by decide +kernel
theorem d_Mo_entry_35 : decode b_Mo_entry 35 = .ok (.ireturn, 1) := by decide +kernel
theorem d_Mo_entry_36 : decode b_Mo_entry 36 = .ok (.iload_n 2, 1) := by decide +kernel
theorem d_Mo_entry_37 : decode b_Mo_entry 37 = .ok (.ifCond .ne 12, 3) := by decide +kernel
theorem d_Mo_entry_40 : decode b_Mo_entry 40 = .ok (.aload_n 0, 1) := by decide +kernel
theorem d_Mo_entry_41 : decode b_Mo_entry 41 = .ok (.getfield 113, 3) := by decide +kernel
theorem d_Mo_entry_44 : decode b_Mo_entry 44 = .ok (.iload_n 1, 1) := by decide +kernel
theorem d_Mo_entry_45 : decode b_Mo_entry 45 = .ok (.iaload, 1) := by decide +kernel
theorem d_Mo_entry_46 : decode b_Mo_entry 46 = .ok (.goto 23, 3) := by decide +kernel
theorem d_Mo_entry_49 : decode b_Mo_entry 49 = .ok (.iload_n 2, 1) := by decide +kernel
theorem d_Mo_entry_50 : decode b_Mo_entry 50 = .ok (.iconst 1, 1) := by decide +kernel
theorem d_Mo_entry_51 : decode b_Mo_entry 51 = .ok (.if_icmp .ne 12, 3) := by decide +kernel
theorem d_Mo_entry_54 : decode b_Mo_entry 54 = .ok (.aload_n 0, 1) := by decide +kernel
theorem d_Mo_entry_55 : decode b_Mo_entry 55 = .ok (.getfield 116, 3) := by decide +kernel
theorem d_Mo_entry_58 : decode b_Mo_entry 58 = .ok (.iload_n 1, 1) := by decide +kernel
theorem d_Mo_entry_59 : decode b_Mo_entry 59 = .ok (.iaload, 1) := by decide +kernel
theorem d_Mo_entry_60 : decode b_Mo_entry 60 = .ok (.goto 9, 3) := by decide +kernel
theorem d_Mo_entry_63 : decode b_Mo_entry 63 = .ok (.aload_n 0, 1) := by decide +kernel
theorem d_Mo_entry_64 : decode b_Mo_entry 64 = .ok (.getfield 119, 3) := by decide +kernel
theorem d_Mo_entry_67 : decode b_Mo_entry 67 = .ok (.iload_n 1, 1) := by decide +kernel
theorem d_Mo_entry_68 : decode b_Mo_entry 68 = .ok (.iaload, 1) := by decide +kernel
theorem d_Mo_entry_69 : decode b_Mo_entry 69 = .ok (.ireturn, 1) := by decide +kernel
def f_Mo_entry (x0 : Nat) (x1 : Int32) (x2 : Int32) (M : fm_M) : Option (Int32 × fm_M) :=
  (pi x0 10 0 0 M).bind fun M101 =>
  bd (f_Mo_out x2 3 M101) fun x105 M103 =>
  if x105 = 0 then
    (gi x0 10 44 M103).bind fun x107 =>
    bd (f_Mo_out x1 x107 M103) fun x111 M109 =>
    if x111 = 0 then
      if x2 = 0 then
        (gr x0 10 45).bind fun q123 =>
        (ai q123 x1 M109).bind fun x125 =>
        some (x125, M109)
      else
        if x2 = 1 then
          (gr x0 10 46).bind fun q119 =>
          (ai q119 x1 M109).bind fun x121 =>
          some (x121, M109)
        else
          (gr x0 10 47).bind fun q115 =>
          (ai q115 x1 M109).bind fun x117 =>
          some (x117, M109)
    else
      (ck x0 10).bind fun _ =>
      bd (f_Mo_fail x0 2 M109) fun x130 M128 =>
      some (x130, M128)
  else
    (ck x0 10).bind fun _ =>
    bd (f_Mo_fail x0 1 M103) fun x134 M132 =>
    some (x134, M132)
set_option maxHeartbeats 4000000 in
set_option maxRecDepth 100000 in
theorem c_Mo_entry (l : Launch) (G : fm_G) (x0 : Nat) (x1 : Int32) (x2 : Int32) {v : Int32} {M M' : fm_M} (h : f_Mo_entry x0 x1 x2 M = some (v, M')) : kMet l y_Mo_entry b_Mo_entry 3 (some .int) rm_Mo_entry G M [.ref (G.2.2 + x0), .int x1, .int x2] (some (.int v)) M' := by
  refine r_met (by decide) rfl (Nat.le_of_ble_eq_true rfl) (fun p e s m args below meth c C0 hP ls hl => ?_)
  have hx := C0.1
  have hb := C0.2.1
  have hl : lv_has ls 3 [(0, .ref (G.2.2 + x0)), (1, .int x1), (2, .int x2)] := hl
  have hS : va_S (fm_A G.2.2) s.heap s.heap [] := va_S.rf
  unfold f_Mo_entry at h
  refine lv_aload_n hx hb d_Mo_entry_0 rfl (lv_at hl 0 rfl) ?_
  refine lv_iconst (v := 0) hx hb d_Mo_entry_1 ic_0 ?_
  obtain ⟨M101, e102, h⟩ := ob h
  refine k_pi C0 F_Mo_122p ik_10_0 hP hS e102 d_Mo_entry_2 (fun H locs hP hS => ?_)
  refine lv_iload_n hx hb d_Mo_entry_5 rfl (lv_at hl 2 rfl) ?_
  refine lv_iconst (v := 3) hx hb d_Mo_entry_6 ic_3 ?_
  obtain ⟨x105, M103, e104, h⟩ := ob2 h
  refine k_cS C0 L_Mo_128 (As := [.int x2, .int 3]) (c_Mo_out l G x2 3 e104) ⟨rfl, rfl⟩ ⟨Nat.le_of_ble_eq_true rfl, Nat.le_of_ble_eq_true rfl⟩ hP hS rfl hl.1 rfl (Nat.le_of_ble_eq_true rfl) d_Mo_entry_7 ⟨Nat.zero_le _, Nat.zero_le _⟩ (fun H locs hP hS => ?_)
  refine lv_if_eq (tgt := 19) hx hb d_Mo_entry_10 (by decide) (fun c106 => ?_) (fun c106 => ?_)
  · rw [if_pos c106] at h
    refine lv_iload_n hx hb d_Mo_entry_19 rfl (lv_at hl 1 rfl) ?_
    refine lv_aload_n hx hb d_Mo_entry_20 rfl (lv_at hl 0 rfl) ?_
    obtain ⟨x107, e108, h⟩ := ob h
    refine k_gi C0 F_Mo_219 ik_10_44 hP e108 d_Mo_entry_21 ?_
    obtain ⟨x111, M109, e110, h⟩ := ob2 h
    refine k_cS C0 L_Mo_128 (As := [.int x1, .int x107]) (c_Mo_out l G x1 x107 e110) ⟨rfl, rfl⟩ ⟨Nat.le_of_ble_eq_true rfl, Nat.le_of_ble_eq_true rfl⟩ hP hS rfl hl.1 rfl (Nat.le_of_ble_eq_true rfl) d_Mo_entry_24 ⟨Nat.zero_le _, Nat.zero_le _⟩ (fun H locs hP hS => ?_)
    refine lv_if_eq (tgt := 36) hx hb d_Mo_entry_27 (by decide) (fun c112 => ?_) (fun c112 => ?_)
    · rw [if_pos c112] at h
      refine lv_iload_n hx hb d_Mo_entry_36 rfl (lv_at hl 2 rfl) ?_
      refine lv_if_ne (tgt := 49) hx hb d_Mo_entry_37 (by decide) (fun c113 => ?_) (fun c113 => ?_)
      · rw [if_neg c113] at h
        refine lv_iload_n hx hb d_Mo_entry_49 rfl (lv_at hl 2 rfl) ?_
        refine lv_iconst (v := 1) hx hb d_Mo_entry_50 ic_1 ?_
        refine lv_icmp_ne (tgt := 63) hx hb d_Mo_entry_51 (by decide) (fun c114 => ?_) (fun c114 => ?_)
        · rw [if_neg c114] at h
          refine lv_aload_n hx hb d_Mo_entry_63 rfl (lv_at hl 0 rfl) ?_
          obtain ⟨q115, e116, h⟩ := ob h
          refine k_gr C0 F_Mo_119 hP e116 d_Mo_entry_64 ?_
          refine lv_iload_n hx hb d_Mo_entry_67 rfl (lv_at hl 1 rfl) ?_
          obtain ⟨x117, e118, h⟩ := ob h
          refine k_ai C0 hP e118 d_Mo_entry_68 ?_
          cases h
          exact r_iret C0 hP hS d_Mo_entry_69
        · rw [if_pos c114] at h
          refine lv_aload_n hx hb d_Mo_entry_54 rfl (lv_at hl 0 rfl) ?_
          obtain ⟨q119, e120, h⟩ := ob h
          refine k_gr C0 F_Mo_116 hP e120 d_Mo_entry_55 ?_
          refine lv_iload_n hx hb d_Mo_entry_58 rfl (lv_at hl 1 rfl) ?_
          obtain ⟨x121, e122, h⟩ := ob h
          refine k_ai C0 hP e122 d_Mo_entry_59 ?_
          refine lv_goto (tgt := 69) hx hb d_Mo_entry_60 (by decide) ?_
          cases h
          exact r_iret C0 hP hS d_Mo_entry_69
      · rw [if_pos c113] at h
        refine lv_aload_n hx hb d_Mo_entry_40 rfl (lv_at hl 0 rfl) ?_
        obtain ⟨q123, e124, h⟩ := ob h
        refine k_gr C0 F_Mo_113 hP e124 d_Mo_entry_41 ?_
        refine lv_iload_n hx hb d_Mo_entry_44 rfl (lv_at hl 1 rfl) ?_
        obtain ⟨x125, e126, h⟩ := ob h
        refine k_ai C0 hP e126 d_Mo_entry_45 ?_
        refine lv_goto (tgt := 69) hx hb d_Mo_entry_46 (by decide) ?_
        cases h
        exact r_iret C0 hP hS d_Mo_entry_69
    · rw [if_neg c112] at h
      refine lv_aload_n hx hb d_Mo_entry_30 rfl (lv_at hl 0 rfl) ?_
      refine lv_iconst (v := 2) hx hb d_Mo_entry_31 ic_2 ?_
      obtain ⟨_, e127, h⟩ := ob h
      obtain ⟨x130, M128, e129, h⟩ := ob2 h
      refine k_cV C0 L_Mo_140 (As := [.int 2]) (c_Mo_fail l G x0 2 e129) ⟨rfl, rfl⟩ ⟨Nat.le_of_ble_eq_true rfl, Nat.le_of_ble_eq_true rfl⟩ hP hS (ck_of e127) ly_Mo rfl hl.1 rfl (Nat.le_of_ble_eq_true rfl) d_Mo_entry_32 ⟨Nat.zero_le _, Nat.zero_le _⟩ (fun H locs hP hS => ?_)
      cases h
      exact r_iret C0 hP hS d_Mo_entry_35
  · rw [if_neg c106] at h
    refine lv_aload_n hx hb d_Mo_entry_13 rfl (lv_at hl 0 rfl) ?_
    refine lv_iconst (v := 1) hx hb d_Mo_entry_14 ic_1 ?_
    obtain ⟨_, e131, h⟩ := ob h
    obtain ⟨x134, M132, e133, h⟩ := ob2 h
    refine k_cV C0 L_Mo_140 (As := [.int 1]) (c_Mo_fail l G x0 1 e133) ⟨rfl, rfl⟩ ⟨Nat.le_of_ble_eq_true rfl, Nat.le_of_ble_eq_true rfl⟩ hP hS (ck_of e131) ly_Mo rfl hl.1 rfl (Nat.le_of_ble_eq_true rfl) d_Mo_entry_15 ⟨Nat.zero_le _, Nat.zero_le _⟩ (fun H locs hP hS => ?_)
    cases h
    exact r_iret C0 hP hS d_Mo_entry_18
/-! AllocationProfilerModel.rate -/
def rm_Mo_rate : Room := { frames := 1, cells := 0, slots := 0, locals := 21 }
theorem d_Mo_rate_0 : decode b_Mo_rate 0 = .ok (.aload_n 0, 1) := by decide +kernel
theorem d_Mo_rate_1 : decode b_Mo_rate 1 = .ok (.iload_n 1, 1) := by decide +kernel
theorem d_Mo_rate_2 : decode b_Mo_rate 2 = .ok (.aload_n 0, 1) := by decide +kernel
theorem d_Mo_rate_3 : decode b_Mo_rate 3 = .ok (.getfield 192, 3) := by decide +kernel
theorem d_Mo_rate_6 : decode b_Mo_rate 6 = .ok (.invokestatic 128, 3) := by decide +kernel
theorem d_Mo_rate_9 : decode b_Mo_rate 9 = .ok (.ifCond .eq 7, 3) := by decide +kernel
theorem d_Mo_rate_12 : decode b_Mo_rate 12 = .ok (.iconst 1, 1) := by decide +kernel
theorem d_Mo_rate_13 : decode b_Mo_rate 13 = .ok (.goto 4, 3) := by decide +kernel
theorem d_Mo_rate_16 : decode b_Mo_rate 16 = .ok (.iconst 0, 1) := by decide +kernel
theorem d_Mo_rate_17 : decode b_Mo_rate 17 = .ok (.putfield 122, 3) := by decide +kernel
theorem d_Mo_rate_20 : decode b_Mo_rate 20 = .ok (.aload_n 0, 1) := by decide +kernel
theorem d_Mo_rate_21 : decode b_Mo_rate 21 = .ok (.getfield 122, 3) := by decide +kernel
theorem d_Mo_rate_24 : decode b_Mo_rate 24 = .ok (.ifCond .le 7, 3) := by decide +kernel
theorem d_Mo_rate_27 : decode b_Mo_rate 27 = .ok (.fconst 0, 1) := by decide +kernel
theorem d_Mo_rate_28 : decode b_Mo_rate 28 = .ok (.goto 9, 3) := by decide +kernel
theorem d_Mo_rate_31 : decode b_Mo_rate 31 = .ok (.aload_n 0, 1) := by decide +kernel
theorem d_Mo_rate_32 : decode b_Mo_rate 32 = .ok (.getfield 103, 3) := by decide +kernel
theorem d_Mo_rate_35 : decode b_Mo_rate 35 = .ok (.iload_n 1, 1) := by decide +kernel
theorem d_Mo_rate_36 : decode b_Mo_rate 36 = .ok (.faload, 1) := by decide +kernel
theorem d_Mo_rate_37 : decode b_Mo_rate 37 = .ok (.freturn, 1) := by decide +kernel
def j_Mo_rate_17 (x0 : Nat) (x1 : Int32) (s0 : Nat) (s1 : Int32) (M : fm_M) : Option (UInt32 × fm_M) :=
  (pi s0 10 0 s1 M).bind fun M101 =>
  (gi x0 10 0 M101).bind fun x103 =>
  if x103 ≤ 0 then
    (gr x0 10 40).bind fun q106 =>
    (af q106 x1 M101).bind fun x108 =>
    some (x108, M101)
  else
    some (FP.fconst0, M101)
def f_Mo_rate (x0 : Nat) (x1 : Int32) (M : fm_M) : Option (UInt32 × fm_M) :=
  (gi x0 10 23 M).bind fun x110 =>
  bd (f_Mo_out x1 x110 M) fun x114 M112 =>
  if x114 = 0 then
    j_Mo_rate_17 x0 x1 x0 0 M112
  else
    j_Mo_rate_17 x0 x1 x0 1 M112
set_option maxHeartbeats 4000000 in
set_option maxRecDepth 100000 in
theorem w_Mo_rate_17 {p : Program} {l : Launch} {e : Env} {s : State} {m : MethodId} {args : Array Value} {below : List Frame} {meth : Method} {c : Code} {G : fm_G} (C0 : fm_C p s m args meth c G (.code y_Mo_rate b_Mo_rate 2 (some .float)) "AllocationProfilerModel" b_Mo_rate 2 (some .float)) {v : UInt32} {M' : fm_M} (x0 : Nat) (x1 : Int32) (s0 : Nat) (s1 : Int32) {M : fm_M} {H : Heap} {locs : List Loc} (hP : kP G M H) (hS : kS G s H locs) {ls : Array Slot} (hl : lv_has ls 2 [(0, .ref (G.2.2 + x0)), (1, .int x1)]) (h : j_Mo_rate_17 x0 x1 s0 s1 M = some (v, M')) : W p l e rm_Mo_rate s m args below meth c H locs 0 0 (MQ below (fm_Q G 212 shF (some (.float v)) M') args s 0 0 (fm_A G.2.2)) (F0 m 17 ls [.int s1, .ref (G.2.2 + s0)]) := by
  have hx := C0.1
  have hb := C0.2.1
  unfold j_Mo_rate_17 at h
  obtain ⟨M101, e102, h⟩ := ob h
  refine k_pi C0 F_Mo_122p ik_10_0 hP hS e102 d_Mo_rate_17 (fun H locs hP hS => ?_)
  refine lv_aload_n hx hb d_Mo_rate_20 rfl (lv_at hl 0 rfl) ?_
  obtain ⟨x103, e104, h⟩ := ob h
  refine k_gi C0 F_Mo_122 ik_10_0 hP e104 d_Mo_rate_21 ?_
  refine lv_if_le (tgt := 31) hx hb d_Mo_rate_24 (by decide) (fun c105 => ?_) (fun c105 => ?_)
  · rw [if_pos c105] at h
    refine lv_aload_n hx hb d_Mo_rate_31 rfl (lv_at hl 0 rfl) ?_
    obtain ⟨q106, e107, h⟩ := ob h
    refine k_gr C0 F_Mo_103 hP e107 d_Mo_rate_32 ?_
    refine lv_iload_n hx hb d_Mo_rate_35 rfl (lv_at hl 1 rfl) ?_
    obtain ⟨x108, e109, h⟩ := ob h
    refine k_af C0 hP e109 d_Mo_rate_36 ?_
    cases h
    exact r_fret C0 hP hS d_Mo_rate_37
  · rw [if_neg c105] at h
    refine lv_fconst0 hx hb d_Mo_rate_27 ?_
    refine lv_goto (tgt := 37) hx hb d_Mo_rate_28 (by decide) ?_
    cases h
    exact r_fret C0 hP hS d_Mo_rate_37
set_option maxHeartbeats 4000000 in
set_option maxRecDepth 100000 in
theorem c_Mo_rate (l : Launch) (G : fm_G) (x0 : Nat) (x1 : Int32) {v : UInt32} {M M' : fm_M} (h : f_Mo_rate x0 x1 M = some (v, M')) : kMet l y_Mo_rate b_Mo_rate 2 (some .float) rm_Mo_rate G M [.ref (G.2.2 + x0), .int x1] (some (.float v)) M' := by
  refine r_met (by decide) rfl (Nat.le_of_ble_eq_true rfl) (fun p e s m args below meth c C0 hP ls hl => ?_)
  have hx := C0.1
  have hb := C0.2.1
  have hl : lv_has ls 2 [(0, .ref (G.2.2 + x0)), (1, .int x1)] := hl
  have hS : va_S (fm_A G.2.2) s.heap s.heap [] := va_S.rf
  unfold f_Mo_rate at h
  refine lv_aload_n hx hb d_Mo_rate_0 rfl (lv_at hl 0 rfl) ?_
  refine lv_iload_n hx hb d_Mo_rate_1 rfl (lv_at hl 1 rfl) ?_
  refine lv_aload_n hx hb d_Mo_rate_2 rfl (lv_at hl 0 rfl) ?_
  obtain ⟨x110, e111, h⟩ := ob h
  refine k_gi C0 F_Mo_192 ik_10_23 hP e111 d_Mo_rate_3 ?_
  obtain ⟨x114, M112, e113, h⟩ := ob2 h
  refine k_cS C0 L_Mo_128 (As := [.int x1, .int x110]) (c_Mo_out l G x1 x110 e113) ⟨rfl, rfl⟩ ⟨Nat.le_of_ble_eq_true rfl, Nat.le_of_ble_eq_true rfl⟩ hP hS rfl hl.1 rfl (Nat.le_of_ble_eq_true rfl) d_Mo_rate_6 ⟨Nat.zero_le _, Nat.zero_le _⟩ (fun H locs hP hS => ?_)
  refine lv_if_eq (tgt := 16) hx hb d_Mo_rate_9 (by decide) (fun c115 => ?_) (fun c115 => ?_)
  · rw [if_pos c115] at h
    refine lv_iconst (v := 0) hx hb d_Mo_rate_16 ic_0 ?_
    exact w_Mo_rate_17 C0 x0 x1 x0 0 hP hS (lv_sub hl [0, 1] rfl) h
  · rw [if_neg c115] at h
    refine lv_iconst (v := 1) hx hb d_Mo_rate_12 ic_1 ?_
    refine lv_goto (tgt := 17) hx hb d_Mo_rate_13 (by decide) ?_
    exact w_Mo_rate_17 C0 x0 x1 x0 1 hP hS (lv_sub hl [0, 1] rfl) h
/-! AllocationProfilerModel.allBytes -/
def rm_Mo_allBytes : Room := { frames := 0, cells := 0, slots := 0, locals := 0 }
theorem d_Mo_allBytes_0 : decode b_Mo_allBytes 0 = .ok (.lconst 0, 1) := by decide +kernel
theorem d_Mo_allBytes_1 : decode b_Mo_allBytes 1 = .ok (.lstore_n 1, 1) := by decide +kernel
theorem d_Mo_allBytes_2 : decode b_Mo_allBytes 2 = .ok (.iconst 0, 1) := by decide +kernel
theorem d_Mo_allBytes_3 : decode b_Mo_allBytes 3 = .ok (.istore_n 3, 1) := by decide +kernel
theorem d_Mo_allBytes_4 : decode b_Mo_allBytes 4 = .ok (.iload_n 3, 1) := by decide +kernel
theorem d_Mo_allBytes_5 : decode b_Mo_allBytes 5 = .ok (.sipush 252, 3) := by decide +kernel
theorem d_Mo_allBytes_8 : decode b_Mo_allBytes 8 = .ok (.if_icmp .ge 18, 3) := by decide +kernel
theorem d_Mo_allBytes_11 : decode b_Mo_allBytes 11 = .ok (.lload_n 1, 1) := by decide +kernel
theorem d_Mo_allBytes_12 : decode b_Mo_allBytes 12 = .ok (.aload_n 0, 1) := by decide +kernel
theorem d_Mo_allBytes_13 : decode b_Mo_allBytes 13 = .ok (.getfield 97, 3) := by decide +kernel
theorem d_Mo_allBytes_16 : decode b_Mo_allBytes 16 = .ok (.iload_n 3, 1) := by decide +kernel
theorem d_Mo_allBytes_17 : decode b_Mo_allBytes 17 = .ok (.laload, 1) := by decide +kernel
theorem d_Mo_allBytes_18 : decode b_Mo_allBytes 18 = .ok (.ladd, 1) := by decide +kernel
theorem d_Mo_allBytes_19 : decode b_Mo_allBytes 19 = .ok (.lstore_n 1, 1) := by decide +kernel
theorem d_Mo_allBytes_20 : decode b_Mo_allBytes 20 = .ok (.iinc 3 1, 3) := by decide +kernel
theorem d_Mo_allBytes_23 : decode b_Mo_allBytes 23 = .ok (.goto (-19), 3) := by decide +kernel
theorem d_Mo_allBytes_26 : decode b_Mo_allBytes 26 = .ok (.lload_n 1, 1) := by decide +kernel
theorem d_Mo_allBytes_27 : decode b_Mo_allBytes 27 = .ok (.lreturn, 1) := by decide +kernel
def h_Mo_allBytes_4 : Nat → Nat → Int64 → Int32 → fm_M → Option (Int64 × fm_M)
  | 0, _, _, _, _ => none
  | n + 1, x0, x1, x3, M =>
    if 252 ≤ x3 then
      some (x1, M)
    else
      (gr x0 10 38).bind fun q102 =>
      (aj q102 x3 M).bind fun x104 =>
      h_Mo_allBytes_4 n x0 (x1 + x104) (x3 + 1) M
def f_Mo_allBytes (x0 : Nat) (M : fm_M) : Option (Int64 × fm_M) :=
  h_Mo_allBytes_4 100000 x0 0 0 M
set_option maxHeartbeats 4000000 in
set_option maxRecDepth 100000 in
theorem w_Mo_allBytes_4 {p : Program} {l : Launch} {e : Env} {s : State} {m : MethodId} {args : Array Value} {below : List Frame} {meth : Method} {c : Code} {G : fm_G} (C0 : fm_C p s m args meth c G (.code y_Mo_allBytes b_Mo_allBytes 4 (some .long)) "AllocationProfilerModel" b_Mo_allBytes 4 (some .long)) {v : Int64} {M' : fm_M} : ∀ (n : Nat) (x0 : Nat) (x1 : Int64) (x3 : Int32) {M : fm_M} {H : Heap} {locs : List Loc}, kP G M H → kS G s H locs → ∀ {ls : Array Slot}, lv_has ls 4 [(0, .ref (G.2.2 + x0)), (1, .long x1), (3, .int x3)] → h_Mo_allBytes_4 n x0 x1 x3 M = some (v, M') → W p l e rm_Mo_allBytes s m args below meth c H locs 0 0 (MQ below (fm_Q G 212 shF (some (.long v)) M') args s 0 0 (fm_A G.2.2)) (F0 m 4 ls []) := by
  have hx := C0.1
  have hb := C0.2.1
  intro n
  induction n with
  | zero =>
    intro x0 x1 x3 M H locs hP hS ls hl h
    exact nomatch h
  | succ n ih =>
    intro x0 x1 x3 M H locs hP hS ls hl h
    have h : (if 252 ≤ x3 then
        some (x1, M)
      else
        (gr x0 10 38).bind fun q102 =>
        (aj q102 x3 M).bind fun x104 =>
        h_Mo_allBytes_4 n x0 (x1 + x104) (x3 + 1) M) = some (v, M') := h
    refine lv_iload_n hx hb d_Mo_allBytes_4 rfl (lv_at hl 2 rfl) ?_
    refine lv_sipush (v := 252) hx hb d_Mo_allBytes_5 sp_252 ?_
    refine lv_icmp_ge (tgt := 26) hx hb d_Mo_allBytes_8 (by decide) (fun c101 => ?_) (fun c101 => ?_)
    · rw [if_pos c101] at h
      refine lv_lload_n hx hb d_Mo_allBytes_26 rfl (lv_at hl 1 rfl) ?_
      cases h
      exact r_lret C0 hP hS d_Mo_allBytes_27
    · rw [if_neg c101] at h
      refine lv_lload_n hx hb d_Mo_allBytes_11 rfl (lv_at hl 1 rfl) ?_
      refine lv_aload_n hx hb d_Mo_allBytes_12 rfl (lv_at hl 0 rfl) ?_
      obtain ⟨q102, e103, h⟩ := ob h
      refine k_gr C0 F_Mo_97 hP e103 d_Mo_allBytes_13 ?_
      refine lv_iload_n hx hb d_Mo_allBytes_16 rfl (lv_at hl 2 rfl) ?_
      obtain ⟨x104, e105, h⟩ := ob h
      refine k_aj C0 hP e105 d_Mo_allBytes_17 ?_
      refine lv_ladd hx hb d_Mo_allBytes_18 ?_
      refine lv_lstore_n (lv' := [(1, .long (x1 + x104)), (0, .ref (G.2.2 + x0)), (3, .int x3)]) hx hb d_Mo_allBytes_19 rfl hl (by decide) rfl (fun ls hl => ?_)
      refine lv_iinc (v := (x3 + 1)) (lv' := [(3, .int (x3 + 1)), (1, .long (x1 + x104)), (0, .ref (G.2.2 + x0))]) hx hb d_Mo_allBytes_20 hl (k := 2) rfl (congrArg (fun z => x3 + z) ic_1) (by decide) rfl (fun ls hl => ?_)
      refine lv_goto (tgt := 4) hx hb d_Mo_allBytes_23 (by decide) ?_
      exact ih x0 (x1 + x104) (x3 + 1) hP hS (lv_sub hl [2, 1, 0] rfl) h
set_option maxHeartbeats 4000000 in
set_option maxRecDepth 100000 in
theorem c_Mo_allBytes (l : Launch) (G : fm_G) (x0 : Nat) {v : Int64} {M M' : fm_M} (h : f_Mo_allBytes x0 M = some (v, M')) : kMet l y_Mo_allBytes b_Mo_allBytes 4 (some .long) rm_Mo_allBytes G M [.ref (G.2.2 + x0)] (some (.long v)) M' := by
  refine r_met (by decide) rfl (Nat.le_of_ble_eq_true rfl) (fun p e s m args below meth c C0 hP ls hl => ?_)
  have hx := C0.1
  have hb := C0.2.1
  have hl : lv_has ls 4 [(0, .ref (G.2.2 + x0))] := hl
  have hS : va_S (fm_A G.2.2) s.heap s.heap [] := va_S.rf
  unfold f_Mo_allBytes at h
  refine lv_lconst (v := 0) hx hb d_Mo_allBytes_0 lc_0 ?_
  refine lv_lstore_n (lv' := [(1, .long 0), (0, .ref (G.2.2 + x0))]) hx hb d_Mo_allBytes_1 rfl hl (by decide) rfl (fun ls hl => ?_)
  refine lv_iconst (v := 0) hx hb d_Mo_allBytes_2 ic_0 ?_
  refine lv_istore_n (lv' := [(3, .int 0), (1, .long 0), (0, .ref (G.2.2 + x0))]) hx hb d_Mo_allBytes_3 rfl hl (by decide) rfl (fun ls hl => ?_)
  exact w_Mo_allBytes_4 C0 100000 x0 0 0 hP hS (lv_sub hl [2, 1, 0] rfl) h
/-! AllocationProfilerModel.share -/
def rm_Mo_share : Room := { frames := 1, cells := 0, slots := 0, locals := 23 }
theorem d_Mo_share_0 : decode b_Mo_share 0 = .ok (.aload_n 0, 1) := by decide +kernel
theorem d_Mo_share_1 : decode b_Mo_share 1 = .ok (.iload_n 1, 1) := by decide +kernel
theorem d_Mo_share_2 : decode b_Mo_share 2 = .ok (.aload_n 0, 1) := by decide +kernel
theorem d_Mo_share_3 : decode b_Mo_share 3 = .ok (.getfield 192, 3) := by decide +kernel
theorem d_Mo_share_6 : decode b_Mo_share 6 = .ok (.invokestatic 128, 3) := by decide +kernel
theorem d_Mo_share_9 : decode b_Mo_share 9 = .ok (.ifCond .eq 7, 3) := by decide +kernel
theorem d_Mo_share_12 : decode b_Mo_share 12 = .ok (.iconst 1, 1) := by decide +kernel
theorem d_Mo_share_13 : decode b_Mo_share 13 = .ok (.goto 4, 3) := by decide +kernel
theorem d_Mo_share_16 : decode b_Mo_share 16 = .ok (.iconst 0, 1) := by decide +kernel
theorem d_Mo_share_17 : decode b_Mo_share 17 = .ok (.putfield 122, 3) := by decide +kernel
theorem d_Mo_share_20 : decode b_Mo_share 20 = .ok (.aload_n 0, 1) := by decide +kernel
theorem d_Mo_share_21 : decode b_Mo_share 21 = .ok (.getfield 122, 3) := by decide +kernel
theorem d_Mo_share_24 : decode b_Mo_share 24 = .ok (.ifCond .le 5, 3) := by decide +kernel
theorem d_Mo_share_27 : decode b_Mo_share 27 = .ok (.fconst 0, 1) := by decide +kernel
theorem d_Mo_share_28 : decode b_Mo_share 28 = .ok (.freturn, 1) := by decide +kernel
theorem d_Mo_share_29 : decode b_Mo_share 29 = .ok (.aload_n 0, 1) := by decide +kernel
theorem d_Mo_share_30 : decode b_Mo_share 30 = .ok (.invokevirtual 281, 3) := by decide +kernel
theorem d_Mo_share_33 : decode b_Mo_share 33 = .ok (.l2f, 1) := by decide +kernel
theorem d_Mo_share_34 : decode b_Mo_share 34 = .ok (.fstore_n 2, 1) := by decide +kernel
theorem d_Mo_share_35 : decode b_Mo_share 35 = .ok (.fload_n 2, 1) := by decide +kernel
theorem d_Mo_share_36 : decode b_Mo_share 36 = .ok (.fconst 0, 1) := by decide +kernel
theorem d_Mo_share_37 : decode b_Mo_share 37 = .ok (.fcmp .l, 1) := by decide +kernel
theorem d_Mo_share_38 : decode b_Mo_share 38 = .ok (.ifCond .le 17, 3) := by decide +kernel
theorem d_Mo_share_41 : decode b_Mo_share 41 = .ok (.aload_n 0, 1) := by decide +kernel
theorem d_Mo_share_42 : decode b_Mo_share 42 = .ok (.getfield 97, 3) := by decide +kernel
theorem d_Mo_share_45 : decode b_Mo_share 45 = .ok (.iload_n 1, 1) := by decide +kernel
theorem d_Mo_share_46 : decode b_Mo_share 46 = .ok (.invokestatic 275, 3) := by decide +kernel
theorem d_Mo_share_49 : decode b_Mo_share 49 = .ok (.l2f, 1) := by decide +kernel
theorem d_Mo_share_50 : decode b_Mo_share 50 = .ok (.fload_n 2, 1) := by decide +kernel
theorem d_Mo_share_51 : decode b_Mo_share 51 = .ok (.fdiv, 1) := by decide +kernel
theorem d_Mo_share_52 : decode b_Mo_share 52 = .ok (.goto 4, 3) := by decide +kernel
theorem d_Mo_share_55 : decode b_Mo_share 55 = .ok (.fconst 0, 1) := by decide +kernel
theorem d_Mo_share_56 : decode b_Mo_share 56 = .ok (.freturn, 1) := by decide +kernel
def j_Mo_share_17 (x0 : Nat) (x1 : Int32) (s0 : Nat) (s1 : Int32) (M : fm_M) : Option (UInt32 × fm_M) :=
  (pi s0 10 0 s1 M).bind fun M101 =>
  (gi x0 10 0 M101).bind fun x103 =>
  if x103 ≤ 0 then
    (ck x0 10).bind fun _ =>
    bd (f_Mo_allBytes x0 M101) fun x109 M107 =>
    if (Op.cmpValue (FP.fcmp (FP.l2f x109) FP.fconst0) .l) ≤ 0 then
      some (FP.fconst0, M107)
    else
      (gr x0 10 38).bind fun q111 =>
      bd (f_Mo_all q111 x1 M107) fun x115 M113 =>
      (nn32 (FP.fdiv (FP.l2f x115) (FP.l2f x109))).bind fun _ =>
      some ((FP.fdiv (FP.l2f x115) (FP.l2f x109)), M113)
  else
    some (FP.fconst0, M101)
def f_Mo_share (x0 : Nat) (x1 : Int32) (M : fm_M) : Option (UInt32 × fm_M) :=
  (gi x0 10 23 M).bind fun x117 =>
  bd (f_Mo_out x1 x117 M) fun x121 M119 =>
  if x121 = 0 then
    j_Mo_share_17 x0 x1 x0 0 M119
  else
    j_Mo_share_17 x0 x1 x0 1 M119
set_option maxHeartbeats 4000000 in
set_option maxRecDepth 100000 in
theorem w_Mo_share_17 {p : Program} {l : Launch} {e : Env} {s : State} {m : MethodId} {args : Array Value} {below : List Frame} {meth : Method} {c : Code} {G : fm_G} (C0 : fm_C p s m args meth c G (.code y_Mo_share b_Mo_share 3 (some .float)) "AllocationProfilerModel" b_Mo_share 3 (some .float)) {v : UInt32} {M' : fm_M} (x0 : Nat) (x1 : Int32) (s0 : Nat) (s1 : Int32) {M : fm_M} {H : Heap} {locs : List Loc} (hP : kP G M H) (hS : kS G s H locs) {ls : Array Slot} (hl : lv_has ls 3 [(0, .ref (G.2.2 + x0)), (1, .int x1)]) (h : j_Mo_share_17 x0 x1 s0 s1 M = some (v, M')) : W p l e rm_Mo_share s m args below meth c H locs 0 0 (MQ below (fm_Q G 212 shF (some (.float v)) M') args s 0 0 (fm_A G.2.2)) (F0 m 17 ls [.int s1, .ref (G.2.2 + s0)]) := by
  have hx := C0.1
  have hb := C0.2.1
  unfold j_Mo_share_17 at h
  obtain ⟨M101, e102, h⟩ := ob h
  refine k_pi C0 F_Mo_122p ik_10_0 hP hS e102 d_Mo_share_17 (fun H locs hP hS => ?_)
  refine lv_aload_n hx hb d_Mo_share_20 rfl (lv_at hl 0 rfl) ?_
  obtain ⟨x103, e104, h⟩ := ob h
  refine k_gi C0 F_Mo_122 ik_10_0 hP e104 d_Mo_share_21 ?_
  refine lv_if_le (tgt := 29) hx hb d_Mo_share_24 (by decide) (fun c105 => ?_) (fun c105 => ?_)
  · rw [if_pos c105] at h
    refine lv_aload_n hx hb d_Mo_share_29 rfl (lv_at hl 0 rfl) ?_
    obtain ⟨_, e106, h⟩ := ob h
    obtain ⟨x109, M107, e108, h⟩ := ob2 h
    refine k_cV C0 L_Mo_281 (As := []) (c_Mo_allBytes l G x0 e108) ⟨rfl, rfl⟩ ⟨Nat.le_of_ble_eq_true rfl, Nat.le_of_ble_eq_true rfl⟩ hP hS (ck_of e106) ly_Mo rfl hl.1 rfl (Nat.le_of_ble_eq_true rfl) d_Mo_share_30 ⟨Nat.zero_le _, Nat.zero_le _⟩ (fun H locs hP hS => ?_)
    refine lv_l2f hx hb d_Mo_share_33 ?_
    refine lv_fstore_n (lv' := [(2, .float (FP.l2f x109)), (0, .ref (G.2.2 + x0)), (1, .int x1)]) hx hb d_Mo_share_34 rfl hl (by decide) rfl (fun ls hl => ?_)
    refine lv_fload_n hx hb d_Mo_share_35 rfl (lv_at hl 0 rfl) ?_
    refine lv_fconst0 hx hb d_Mo_share_36 ?_
    refine lv_fcmp hx hb d_Mo_share_37 ?_
    refine lv_if_le (tgt := 55) hx hb d_Mo_share_38 (by decide) (fun c110 => ?_) (fun c110 => ?_)
    · rw [if_pos c110] at h
      refine lv_fconst0 hx hb d_Mo_share_55 ?_
      cases h
      exact r_fret C0 hP hS d_Mo_share_56
    · rw [if_neg c110] at h
      refine lv_aload_n hx hb d_Mo_share_41 rfl (lv_at hl 1 rfl) ?_
      obtain ⟨q111, e112, h⟩ := ob h
      refine k_gr C0 F_Mo_97 hP e112 d_Mo_share_42 ?_
      refine lv_iload_n hx hb d_Mo_share_45 rfl (lv_at hl 2 rfl) ?_
      obtain ⟨x115, M113, e114, h⟩ := ob2 h
      refine k_cS C0 L_Mo_275 (As := [.ref (G.2.2 + q111), .int x1]) (c_Mo_all l G q111 x1 e114) ⟨rfl, rfl⟩ ⟨Nat.le_of_ble_eq_true rfl, Nat.le_of_ble_eq_true rfl⟩ hP hS rfl hl.1 rfl (Nat.le_of_ble_eq_true rfl) d_Mo_share_46 ⟨Nat.zero_le _, Nat.zero_le _⟩ (fun H locs hP hS => ?_)
      refine lv_l2f hx hb d_Mo_share_49 ?_
      refine lv_fload_n hx hb d_Mo_share_50 rfl (lv_at hl 0 rfl) ?_
      obtain ⟨_, e116, h⟩ := ob h
      refine lv_fdiv hx hb d_Mo_share_51 (nn32_of e116) ?_
      refine lv_goto (tgt := 56) hx hb d_Mo_share_52 (by decide) ?_
      cases h
      exact r_fret C0 hP hS d_Mo_share_56
  · rw [if_neg c105] at h
    refine lv_fconst0 hx hb d_Mo_share_27 ?_
    cases h
    exact r_fret C0 hP hS d_Mo_share_28
set_option maxHeartbeats 4000000 in
set_option maxRecDepth 100000 in
theorem c_Mo_share (l : Launch) (G : fm_G) (x0 : Nat) (x1 : Int32) {v : UInt32} {M M' : fm_M} (h : f_Mo_share x0 x1 M = some (v, M')) : kMet l y_Mo_share b_Mo_share 3 (some .float) rm_Mo_share G M [.ref (G.2.2 + x0), .int x1] (some (.float v)) M' := by
  refine r_met (by decide) rfl (Nat.le_of_ble_eq_true rfl) (fun p e s m args below meth c C0 hP ls hl => ?_)
  have hx := C0.1
  have hb := C0.2.1
  have hl : lv_has ls 3 [(0, .ref (G.2.2 + x0)), (1, .int x1)] := hl
  have hS : va_S (fm_A G.2.2) s.heap s.heap [] := va_S.rf
  unfold f_Mo_share at h
  refine lv_aload_n hx hb d_Mo_share_0 rfl (lv_at hl 0 rfl) ?_
  refine lv_iload_n hx hb d_Mo_share_1 rfl (lv_at hl 1 rfl) ?_
  refine lv_aload_n hx hb d_Mo_share_2 rfl (lv_at hl 0 rfl) ?_
  obtain ⟨x117, e118, h⟩ := ob h
  refine k_gi C0 F_Mo_192 ik_10_23 hP e118 d_Mo_share_3 ?_
  obtain ⟨x121, M119, e120, h⟩ := ob2 h
  refine k_cS C0 L_Mo_128 (As := [.int x1, .int x117]) (c_Mo_out l G x1 x117 e120) ⟨rfl, rfl⟩ ⟨Nat.le_of_ble_eq_true rfl, Nat.le_of_ble_eq_true rfl⟩ hP hS rfl hl.1 rfl (Nat.le_of_ble_eq_true rfl) d_Mo_share_6 ⟨Nat.zero_le _, Nat.zero_le _⟩ (fun H locs hP hS => ?_)
  refine lv_if_eq (tgt := 16) hx hb d_Mo_share_9 (by decide) (fun c122 => ?_) (fun c122 => ?_)
  · rw [if_pos c122] at h
    refine lv_iconst (v := 0) hx hb d_Mo_share_16 ic_0 ?_
    exact w_Mo_share_17 C0 x0 x1 x0 0 hP hS (lv_sub hl [0, 1] rfl) h
  · rw [if_neg c122] at h
    refine lv_iconst (v := 1) hx hb d_Mo_share_12 ic_1 ?_
    refine lv_goto (tgt := 17) hx hb d_Mo_share_13 (by decide) ?_
    exact w_Mo_share_17 C0 x0 x1 x0 1 hP hS (lv_sub hl [0, 1] rfl) h
/-! AllocationProfilerModel.estimated -/
def rm_Mo_estimated : Room := { frames := 1, cells := 0, slots := 0, locals := 23 }
theorem d_Mo_estimated_0 : decode b_Mo_estimated 0 = .ok (.iconst 0, 1) := by decide +kernel
theorem d_Mo_estimated_1 : decode b_Mo_estimated 1 = .ok (.istore_n 2, 1) := by decide +kernel
theorem d_Mo_estimated_2 : decode b_Mo_estimated 2 = .ok (.iconst 0, 1) := by decide +kernel
theorem d_Mo_estimated_3 : decode b_Mo_estimated 3 = .ok (.istore_n 3, 1) := by decide +kernel
theorem d_Mo_estimated_4 : decode b_Mo_estimated 4 = .ok (.iload_n 3, 1) := by decide +kernel
theorem d_Mo_estimated_5 : decode b_Mo_estimated 5 = .ok (.aload_n 0, 1) := by decide +kernel
theorem d_Mo_estimated_6 : decode b_Mo_estimated 6 = .ok (.getfield 192, 3) := by decide +kernel
theorem d_Mo_estimated_9 : decode b_Mo_estimated 9 = .ok (.if_icmp .ge 18, 3) := by decide +kernel
theorem d_Mo_estimated_12 : decode b_Mo_estimated 12 = .ok (.iload_n 2, 1) := by decide +kernel
theorem d_Mo_estimated_13 : decode b_Mo_estimated 13 = .ok (.aload_n 0, 1) := by decide +kernel
theorem d_Mo_estimated_14 : decode b_Mo_estimated 14 = .ok (.getfield 100, 3) := by decide +kernel
theorem d_Mo_estimated_17 : decode b_Mo_estimated 17 = .ok (.iload_n 3, 1) := by decide +kernel
theorem d_Mo_estimated_18 : decode b_Mo_estimated 18 = .ok (.iaload, 1) := by decide +kernel
theorem d_Mo_estimated_19 : decode b_Mo_estimated 19 = .ok (.iadd, 1) := by decide +kernel
theorem d_Mo_estimated_20 : decode b_Mo_estimated 20 = .ok (.istore_n 2, 1) := by decide +kernel
theorem d_Mo_estimated_21 : decode b_Mo_estimated 21 = .ok (.iinc 3 1, 3) := by decide +kernel
theorem d_Mo_estimated_24 : decode b_Mo_estimated 24 = .ok (.goto (-20), 3) := by decide +kernel
theorem d_Mo_estimated_27 : decode b_Mo_estimated 27 = .ok (.iload_n 2, 1) := by decide +kernel
theorem d_Mo_estimated_28 : decode b_Mo_estimated 28 = .ok (.ifCond .ne 7, 3) := by decide +kernel
theorem d_Mo_estimated_31 : decode b_Mo_estimated 31 = .ok (.dconst 0, 1) := by decide +kernel
theorem d_Mo_estimated_32 : decode b_Mo_estimated 32 = .ok (.goto 19, 3) := by decide +kernel
theorem d_Mo_estimated_35 : decode b_Mo_estimated 35 = .ok (.aload_n 0, 1) := by decide +kernel
theorem d_Mo_estimated_36 : decode b_Mo_estimated 36 = .ok (.getfield 100, 3) := by decide +kernel
theorem d_Mo_estimated_39 : decode b_Mo_estimated 39 = .ok (.iload_n 1, 1) := by decide +kernel
theorem d_Mo_estimated_40 : decode b_Mo_estimated 40 = .ok (.iaload, 1) := by decide +kernel
theorem d_Mo_estimated_41 : decode b_Mo_estimated 41 = .ok (.i2d, 1) := by decide +kernel
theorem d_Mo_estimated_42 : decode b_Mo_estimated 42 = .ok (.aload_n 0, 1) := by decide +kernel
theorem d_Mo_estimated_43 : decode b_Mo_estimated 43 = .ok (.invokevirtual 281, 3) := by decide +kernel
theorem d_Mo_estimated_46 : decode b_Mo_estimated 46 = .ok (.l2d, 1) := by decide +kernel
theorem d_Mo_estimated_47 : decode b_Mo_estimated 47 = .ok (.dmul, 1) := by decide +kernel
theorem d_Mo_estimated_48 : decode b_Mo_estimated 48 = .ok (.iload_n 2, 1) := by decide +kernel
theorem d_Mo_estimated_49 : decode b_Mo_estimated 49 = .ok (.i2d, 1) := by decide +kernel
theorem d_Mo_estimated_50 : decode b_Mo_estimated 50 = .ok (.ddiv, 1) := by decide +kernel
theorem d_Mo_estimated_51 : decode b_Mo_estimated 51 = .ok (.dreturn, 1) := by decide +kernel
def h_Mo_estimated_4 : Nat → Nat → Int32 → Int32 → Int32 → fm_M → Option (UInt64 × fm_M)
  | 0, _, _, _, _, _ => none
  | n + 1, x0, x1, x2, x3, M =>
    (gi x0 10 23 M).bind fun x101 =>
    if x101 ≤ x3 then
      if x2 = 0 then
        some (FP.dconst0, M)
      else
        (gr x0 10 39).bind fun q105 =>
        (ai q105 x1 M).bind fun x107 =>
        (ck x0 10).bind fun _ =>
        bd (f_Mo_allBytes x0 M) fun x112 M110 =>
        (nn64 (FP.dmul (FP.i2d x107) (FP.l2d x112))).bind fun _ =>
        (nn64 (FP.ddiv (FP.dmul (FP.i2d x107) (FP.l2d x112)) (FP.i2d x2))).bind fun _ =>
        some ((FP.ddiv (FP.dmul (FP.i2d x107) (FP.l2d x112)) (FP.i2d x2)), M110)
    else
      (gr x0 10 39).bind fun q115 =>
      (ai q115 x3 M).bind fun x117 =>
      h_Mo_estimated_4 n x0 x1 (x2 + x117) (x3 + 1) M
def f_Mo_estimated (x0 : Nat) (x1 : Int32) (M : fm_M) : Option (UInt64 × fm_M) :=
  h_Mo_estimated_4 100000 x0 x1 0 0 M
set_option maxHeartbeats 4000000 in
set_option maxRecDepth 100000 in
theorem w_Mo_estimated_4 {p : Program} {l : Launch} {e : Env} {s : State} {m : MethodId} {args : Array Value} {below : List Frame} {meth : Method} {c : Code} {G : fm_G} (C0 : fm_C p s m args meth c G (.code y_Mo_estimated b_Mo_estimated 4 (some .double)) "AllocationProfilerModel" b_Mo_estimated 4 (some .double)) {v : UInt64} {M' : fm_M} : ∀ (n : Nat) (x0 : Nat) (x1 : Int32) (x2 : Int32) (x3 : Int32) {M : fm_M} {H : Heap} {locs : List Loc}, kP G M H → kS G s H locs → ∀ {ls : Array Slot}, lv_has ls 4 [(0, .ref (G.2.2 + x0)), (1, .int x1), (2, .int x2), (3, .int x3)] → h_Mo_estimated_4 n x0 x1 x2 x3 M = some (v, M') → W p l e rm_Mo_estimated s m args below meth c H locs 0 0 (MQ below (fm_Q G 212 shF (some (.double v)) M') args s 0 0 (fm_A G.2.2)) (F0 m 4 ls []) := by
  have hx := C0.1
  have hb := C0.2.1
  intro n
  induction n with
  | zero =>
    intro x0 x1 x2 x3 M H locs hP hS ls hl h
    exact nomatch h
  | succ n ih =>
    intro x0 x1 x2 x3 M H locs hP hS ls hl h
    have h : ((gi x0 10 23 M).bind fun x101 =>
      if x101 ≤ x3 then
        if x2 = 0 then
          some (FP.dconst0, M)
        else
          (gr x0 10 39).bind fun q105 =>
          (ai q105 x1 M).bind fun x107 =>
          (ck x0 10).bind fun _ =>
          bd (f_Mo_allBytes x0 M) fun x112 M110 =>
          (nn64 (FP.dmul (FP.i2d x107) (FP.l2d x112))).bind fun _ =>
          (nn64 (FP.ddiv (FP.dmul (FP.i2d x107) (FP.l2d x112)) (FP.i2d x2))).bind fun _ =>
          some ((FP.ddiv (FP.dmul (FP.i2d x107) (FP.l2d x112)) (FP.i2d x2)), M110)
      else
        (gr x0 10 39).bind fun q115 =>
        (ai q115 x3 M).bind fun x117 =>
        h_Mo_estimated_4 n x0 x1 (x2 + x117) (x3 + 1) M) = some (v, M') := h
    refine lv_iload_n hx hb d_Mo_estimated_4 rfl (lv_at hl 3 rfl) ?_
    refine lv_aload_n hx hb d_Mo_estimated_5 rfl (lv_at hl 0 rfl) ?_
    obtain ⟨x101, e102, h⟩ := ob h
    refine k_gi C0 F_Mo_192 ik_10_23 hP e102 d_Mo_estimated_6 ?_
    refine lv_icmp_ge (tgt := 27) hx hb d_Mo_estimated_9 (by decide) (fun c103 => ?_) (fun c103 => ?_)
    · rw [if_pos c103] at h
      refine lv_iload_n hx hb d_Mo_estimated_27 rfl (lv_at hl 2 rfl) ?_
      refine lv_if_ne (tgt := 35) hx hb d_Mo_estimated_28 (by decide) (fun c104 => ?_) (fun c104 => ?_)
      · rw [if_neg c104] at h
        refine lv_aload_n hx hb d_Mo_estimated_35 rfl (lv_at hl 0 rfl) ?_
        obtain ⟨q105, e106, h⟩ := ob h
        refine k_gr C0 F_Mo_100 hP e106 d_Mo_estimated_36 ?_
        refine lv_iload_n hx hb d_Mo_estimated_39 rfl (lv_at hl 1 rfl) ?_
        obtain ⟨x107, e108, h⟩ := ob h
        refine k_ai C0 hP e108 d_Mo_estimated_40 ?_
        refine lv_i2d hx hb d_Mo_estimated_41 ?_
        refine lv_aload_n hx hb d_Mo_estimated_42 rfl (lv_at hl 0 rfl) ?_
        obtain ⟨_, e109, h⟩ := ob h
        obtain ⟨x112, M110, e111, h⟩ := ob2 h
        refine k_cV C0 L_Mo_281 (As := []) (c_Mo_allBytes l G x0 e111) ⟨rfl, rfl⟩ ⟨Nat.le_of_ble_eq_true rfl, Nat.le_of_ble_eq_true rfl⟩ hP hS (ck_of e109) ly_Mo rfl hl.1 rfl (Nat.le_of_ble_eq_true rfl) d_Mo_estimated_43 ⟨Nat.zero_le _, Nat.zero_le _⟩ (fun H locs hP hS => ?_)
        refine lv_l2d hx hb d_Mo_estimated_46 ?_
        obtain ⟨_, e113, h⟩ := ob h
        refine lv_dmul hx hb d_Mo_estimated_47 (nn64_of e113) ?_
        refine lv_iload_n hx hb d_Mo_estimated_48 rfl (lv_at hl 2 rfl) ?_
        refine lv_i2d hx hb d_Mo_estimated_49 ?_
        obtain ⟨_, e114, h⟩ := ob h
        refine lv_ddiv hx hb d_Mo_estimated_50 (nn64_of e114) ?_
        cases h
        exact r_dret C0 hP hS d_Mo_estimated_51
      · rw [if_pos c104] at h
        refine lv_dconst0 hx hb d_Mo_estimated_31 ?_
        refine lv_goto (tgt := 51) hx hb d_Mo_estimated_32 (by decide) ?_
        cases h
        exact r_dret C0 hP hS d_Mo_estimated_51
    · rw [if_neg c103] at h
      refine lv_iload_n hx hb d_Mo_estimated_12 rfl (lv_at hl 2 rfl) ?_
      refine lv_aload_n hx hb d_Mo_estimated_13 rfl (lv_at hl 0 rfl) ?_
      obtain ⟨q115, e116, h⟩ := ob h
      refine k_gr C0 F_Mo_100 hP e116 d_Mo_estimated_14 ?_
      refine lv_iload_n hx hb d_Mo_estimated_17 rfl (lv_at hl 3 rfl) ?_
      obtain ⟨x117, e118, h⟩ := ob h
      refine k_ai C0 hP e118 d_Mo_estimated_18 ?_
      refine lv_iadd hx hb d_Mo_estimated_19 ?_
      refine lv_istore_n (lv' := [(2, .int (x2 + x117)), (0, .ref (G.2.2 + x0)), (1, .int x1), (3, .int x3)]) hx hb d_Mo_estimated_20 rfl hl (by decide) rfl (fun ls hl => ?_)
      refine lv_iinc (v := (x3 + 1)) (lv' := [(3, .int (x3 + 1)), (2, .int (x2 + x117)), (0, .ref (G.2.2 + x0)), (1, .int x1)]) hx hb d_Mo_estimated_21 hl (k := 3) rfl (congrArg (fun z => x3 + z) ic_1) (by decide) rfl (fun ls hl => ?_)
      refine lv_goto (tgt := 4) hx hb d_Mo_estimated_24 (by decide) ?_
      exact ih x0 x1 (x2 + x117) (x3 + 1) hP hS (lv_sub hl [2, 3, 1, 0] rfl) h
set_option maxHeartbeats 4000000 in
set_option maxRecDepth 100000 in
theorem c_Mo_estimated (l : Launch) (G : fm_G) (x0 : Nat) (x1 : Int32) {v : UInt64} {M M' : fm_M} (h : f_Mo_estimated x0 x1 M = some (v, M')) : kMet l y_Mo_estimated b_Mo_estimated 4 (some .double) rm_Mo_estimated G M [.ref (G.2.2 + x0), .int x1] (some (.double v)) M' := by
  refine r_met (by decide) rfl (Nat.le_of_ble_eq_true rfl) (fun p e s m args below meth c C0 hP ls hl => ?_)
  have hx := C0.1
  have hb := C0.2.1
  have hl : lv_has ls 4 [(0, .ref (G.2.2 + x0)), (1, .int x1)] := hl
  have hS : va_S (fm_A G.2.2) s.heap s.heap [] := va_S.rf
  unfold f_Mo_estimated at h
  refine lv_iconst (v := 0) hx hb d_Mo_estimated_0 ic_0 ?_
  refine lv_istore_n (lv' := [(2, .int 0), (0, .ref (G.2.2 + x0)), (1, .int x1)]) hx hb d_Mo_estimated_1 rfl hl (by decide) rfl (fun ls hl => ?_)
  refine lv_iconst (v := 0) hx hb d_Mo_estimated_2 ic_0 ?_
  refine lv_istore_n (lv' := [(3, .int 0), (2, .int 0), (0, .ref (G.2.2 + x0)), (1, .int x1)]) hx hb d_Mo_estimated_3 rfl hl (by decide) rfl (fun ls hl => ?_)
  exact w_Mo_estimated_4 C0 100000 x0 x1 0 0 hP hS (lv_sub hl [2, 3, 1, 0] rfl) h
/-! AllocationProfilerModel.estimate -/
def rm_Mo_estimate : Room := { frames := 2, cells := 0, slots := 0, locals := 46 }
theorem d_Mo_estimate_0 : decode b_Mo_estimate 0 = .ok (.aload_n 0, 1) := by decide +kernel
theorem d_Mo_estimate_1 : decode b_Mo_estimate 1 = .ok (.iload_n 1, 1) := by decide +kernel
theorem d_Mo_estimate_2 : decode b_Mo_estimate 2 = .ok (.aload_n 0, 1) := by decide +kernel
theorem d_Mo_estimate_3 : decode b_Mo_estimate 3 = .ok (.getfield 192, 3) := by decide +kernel
theorem d_Mo_estimate_6 : decode b_Mo_estimate 6 = .ok (.invokestatic 128, 3) := by decide +kernel
theorem d_Mo_estimate_9 : decode b_Mo_estimate 9 = .ok (.ifCond .eq 7, 3) := by decide +kernel
theorem d_Mo_estimate_12 : decode b_Mo_estimate 12 = .ok (.iconst 1, 1) := by decide +kernel
theorem d_Mo_estimate_13 : decode b_Mo_estimate 13 = .ok (.goto 4, 3) := by decide +kernel
theorem d_Mo_estimate_16 : decode b_Mo_estimate 16 = .ok (.iconst 0, 1) := by decide +kernel
theorem d_Mo_estimate_17 : decode b_Mo_estimate 17 = .ok (.putfield 122, 3) := by decide +kernel
theorem d_Mo_estimate_20 : decode b_Mo_estimate 20 = .ok (.aload_n 0, 1) := by decide +kernel
theorem d_Mo_estimate_21 : decode b_Mo_estimate 21 = .ok (.getfield 122, 3) := by decide +kernel
theorem d_Mo_estimate_24 : decode b_Mo_estimate 24 = .ok (.ifCond .le 7, 3) := by decide +kernel
theorem d_Mo_estimate_27 : decode b_Mo_estimate 27 = .ok (.dconst 0, 1) := by decide +kernel
theorem d_Mo_estimate_28 : decode b_Mo_estimate 28 = .ok (.goto 8, 3) := by decide +kernel
theorem d_Mo_estimate_31 : decode b_Mo_estimate 31 = .ok (.aload_n 0, 1) := by decide +kernel
theorem d_Mo_estimate_32 : decode b_Mo_estimate 32 = .ok (.iload_n 1, 1) := by decide +kernel
theorem d_Mo_estimate_33 : decode b_Mo_estimate 33 = .ok (.invokevirtual 285, 3) := by decide +kernel
theorem d_Mo_estimate_36 : decode b_Mo_estimate 36 = .ok (.dreturn, 1) := by decide +kernel
def j_Mo_estimate_17 (x0 : Nat) (x1 : Int32) (s0 : Nat) (s1 : Int32) (M : fm_M) : Option (UInt64 × fm_M) :=
  (pi s0 10 0 s1 M).bind fun M101 =>
  (gi x0 10 0 M101).bind fun x103 =>
  if x103 ≤ 0 then
    (ck x0 10).bind fun _ =>
    bd (f_Mo_estimated x0 x1 M101) fun x109 M107 =>
    some (x109, M107)
  else
    some (FP.dconst0, M101)
def f_Mo_estimate (x0 : Nat) (x1 : Int32) (M : fm_M) : Option (UInt64 × fm_M) :=
  (gi x0 10 23 M).bind fun x110 =>
  bd (f_Mo_out x1 x110 M) fun x114 M112 =>
  if x114 = 0 then
    j_Mo_estimate_17 x0 x1 x0 0 M112
  else
    j_Mo_estimate_17 x0 x1 x0 1 M112
set_option maxHeartbeats 4000000 in
set_option maxRecDepth 100000 in
theorem w_Mo_estimate_17 {p : Program} {l : Launch} {e : Env} {s : State} {m : MethodId} {args : Array Value} {below : List Frame} {meth : Method} {c : Code} {G : fm_G} (C0 : fm_C p s m args meth c G (.code y_Mo_estimate b_Mo_estimate 2 (some .double)) "AllocationProfilerModel" b_Mo_estimate 2 (some .double)) {v : UInt64} {M' : fm_M} (x0 : Nat) (x1 : Int32) (s0 : Nat) (s1 : Int32) {M : fm_M} {H : Heap} {locs : List Loc} (hP : kP G M H) (hS : kS G s H locs) {ls : Array Slot} (hl : lv_has ls 2 [(0, .ref (G.2.2 + x0)), (1, .int x1)]) (h : j_Mo_estimate_17 x0 x1 s0 s1 M = some (v, M')) : W p l e rm_Mo_estimate s m args below meth c H locs 0 0 (MQ below (fm_Q G 212 shF (some (.double v)) M') args s 0 0 (fm_A G.2.2)) (F0 m 17 ls [.int s1, .ref (G.2.2 + s0)]) := by
  have hx := C0.1
  have hb := C0.2.1
  unfold j_Mo_estimate_17 at h
  obtain ⟨M101, e102, h⟩ := ob h
  refine k_pi C0 F_Mo_122p ik_10_0 hP hS e102 d_Mo_estimate_17 (fun H locs hP hS => ?_)
  refine lv_aload_n hx hb d_Mo_estimate_20 rfl (lv_at hl 0 rfl) ?_
  obtain ⟨x103, e104, h⟩ := ob h
  refine k_gi C0 F_Mo_122 ik_10_0 hP e104 d_Mo_estimate_21 ?_
  refine lv_if_le (tgt := 31) hx hb d_Mo_estimate_24 (by decide) (fun c105 => ?_) (fun c105 => ?_)
  · rw [if_pos c105] at h
    refine lv_aload_n hx hb d_Mo_estimate_31 rfl (lv_at hl 0 rfl) ?_
    refine lv_iload_n hx hb d_Mo_estimate_32 rfl (lv_at hl 1 rfl) ?_
    obtain ⟨_, e106, h⟩ := ob h
    obtain ⟨x109, M107, e108, h⟩ := ob2 h
    refine k_cV C0 L_Mo_285 (As := [.int x1]) (c_Mo_estimated l G x0 x1 e108) ⟨rfl, rfl⟩ ⟨Nat.le_of_ble_eq_true rfl, Nat.le_of_ble_eq_true rfl⟩ hP hS (ck_of e106) ly_Mo rfl hl.1 rfl (Nat.le_of_ble_eq_true rfl) d_Mo_estimate_33 ⟨Nat.zero_le _, Nat.zero_le _⟩ (fun H locs hP hS => ?_)
    cases h
    exact r_dret C0 hP hS d_Mo_estimate_36
  · rw [if_neg c105] at h
    refine lv_dconst0 hx hb d_Mo_estimate_27 ?_
    refine lv_goto (tgt := 36) hx hb d_Mo_estimate_28 (by decide) ?_
    cases h
    exact r_dret C0 hP hS d_Mo_estimate_36
set_option maxHeartbeats 4000000 in
set_option maxRecDepth 100000 in
theorem c_Mo_estimate (l : Launch) (G : fm_G) (x0 : Nat) (x1 : Int32) {v : UInt64} {M M' : fm_M} (h : f_Mo_estimate x0 x1 M = some (v, M')) : kMet l y_Mo_estimate b_Mo_estimate 2 (some .double) rm_Mo_estimate G M [.ref (G.2.2 + x0), .int x1] (some (.double v)) M' := by
  refine r_met (by decide) rfl (Nat.le_of_ble_eq_true rfl) (fun p e s m args below meth c C0 hP ls hl => ?_)
  have hx := C0.1
  have hb := C0.2.1
  have hl : lv_has ls 2 [(0, .ref (G.2.2 + x0)), (1, .int x1)] := hl
  have hS : va_S (fm_A G.2.2) s.heap s.heap [] := va_S.rf
  unfold f_Mo_estimate at h
  refine lv_aload_n hx hb d_Mo_estimate_0 rfl (lv_at hl 0 rfl) ?_
  refine lv_iload_n hx hb d_Mo_estimate_1 rfl (lv_at hl 1 rfl) ?_
  refine lv_aload_n hx hb d_Mo_estimate_2 rfl (lv_at hl 0 rfl) ?_
  obtain ⟨x110, e111, h⟩ := ob h
  refine k_gi C0 F_Mo_192 ik_10_23 hP e111 d_Mo_estimate_3 ?_
  obtain ⟨x114, M112, e113, h⟩ := ob2 h
  refine k_cS C0 L_Mo_128 (As := [.int x1, .int x110]) (c_Mo_out l G x1 x110 e113) ⟨rfl, rfl⟩ ⟨Nat.le_of_ble_eq_true rfl, Nat.le_of_ble_eq_true rfl⟩ hP hS rfl hl.1 rfl (Nat.le_of_ble_eq_true rfl) d_Mo_estimate_6 ⟨Nat.zero_le _, Nat.zero_le _⟩ (fun H locs hP hS => ?_)
  refine lv_if_eq (tgt := 16) hx hb d_Mo_estimate_9 (by decide) (fun c115 => ?_) (fun c115 => ?_)
  · rw [if_pos c115] at h
    refine lv_iconst (v := 0) hx hb d_Mo_estimate_16 ic_0 ?_
    exact w_Mo_estimate_17 C0 x0 x1 x0 0 hP hS (lv_sub hl [0, 1] rfl) h
  · rw [if_neg c115] at h
    refine lv_iconst (v := 1) hx hb d_Mo_estimate_12 ic_1 ?_
    refine lv_goto (tgt := 17) hx hb d_Mo_estimate_13 (by decide) ?_
    exact w_Mo_estimate_17 C0 x0 x1 x0 1 hP hS (lv_sub hl [0, 1] rfl) h
/-! AllocationProfilerModel.rounded -/
def rm_Mo_rounded : Room := { frames := 2, cells := 0, slots := 0, locals := 46 }
theorem d_Mo_rounded_0 : decode b_Mo_rounded 0 = .ok (.aload_n 0, 1) := by decide +kernel
theorem d_Mo_rounded_1 : decode b_Mo_rounded 1 = .ok (.iload_n 1, 1) := by decide +kernel
theorem d_Mo_rounded_2 : decode b_Mo_rounded 2 = .ok (.aload_n 0, 1) := by decide +kernel
theorem d_Mo_rounded_3 : decode b_Mo_rounded 3 = .ok (.getfield 192, 3) := by decide +kernel
theorem d_Mo_rounded_6 : decode b_Mo_rounded 6 = .ok (.invokestatic 128, 3) := by decide +kernel
theorem d_Mo_rounded_9 : decode b_Mo_rounded 9 = .ok (.ifCond .eq 7, 3) := by decide +kernel
theorem d_Mo_rounded_12 : decode b_Mo_rounded 12 = .ok (.iconst 1, 1) := by decide +kernel
theorem d_Mo_rounded_13 : decode b_Mo_rounded 13 = .ok (.goto 4, 3) := by decide +kernel
theorem d_Mo_rounded_16 : decode b_Mo_rounded 16 = .ok (.iconst 0, 1) := by decide +kernel
theorem d_Mo_rounded_17 : decode b_Mo_rounded 17 = .ok (.putfield 122, 3) := by decide +kernel
theorem d_Mo_rounded_20 : decode b_Mo_rounded 20 = .ok (.aload_n 0, 1) := by decide +kernel
theorem d_Mo_rounded_21 : decode b_Mo_rounded 21 = .ok (.getfield 122, 3) := by decide +kernel
theorem d_Mo_rounded_24 : decode b_Mo_rounded 24 = .ok (.ifCond .le 7, 3) := by decide +kernel
theorem d_Mo_rounded_27 : decode b_Mo_rounded 27 = .ok (.lconst 0, 1) := by decide +kernel
theorem d_Mo_rounded_28 : decode b_Mo_rounded 28 = .ok (.goto 13, 3) := by decide +kernel
theorem d_Mo_rounded_31 : decode b_Mo_rounded 31 = .ok (.aload_n 0, 1) := by decide +kernel
theorem d_Mo_rounded_32 : decode b_Mo_rounded 32 = .ok (.iload_n 1, 1) := by decide +kernel
theorem d_Mo_rounded_33 : decode b_Mo_rounded 33 = .ok (.invokevirtual 285, 3) := by decide +kernel
theorem d_Mo_rounded_36 : decode b_Mo_rounded 36 = .ok (.ldc2_w 289, 3) := by decide +kernel
theorem d_Mo_rounded_39 : decode b_Mo_rounded 39 = .ok (.dadd, 1) := by decide +kernel
theorem d_Mo_rounded_40 : decode b_Mo_rounded 40 = .ok (.d2l, 1) := by decide +kernel
theorem d_Mo_rounded_41 : decode b_Mo_rounded 41 = .ok (.lreturn, 1) := by decide +kernel
def j_Mo_rounded_17 (x0 : Nat) (x1 : Int32) (s0 : Nat) (s1 : Int32) (M : fm_M) : Option (Int64 × fm_M) :=
  (pi s0 10 0 s1 M).bind fun M101 =>
  (gi x0 10 0 M101).bind fun x103 =>
  if x103 ≤ 0 then
    (ck x0 10).bind fun _ =>
    bd (f_Mo_estimated x0 x1 M101) fun x109 M107 =>
    (nn64 (FP.dadd x109 4602678819172646912)).bind fun _ =>
    some ((FP.d2l (FP.dadd x109 4602678819172646912)), M107)
  else
    some (0, M101)
def f_Mo_rounded (x0 : Nat) (x1 : Int32) (M : fm_M) : Option (Int64 × fm_M) :=
  (gi x0 10 23 M).bind fun x111 =>
  bd (f_Mo_out x1 x111 M) fun x115 M113 =>
  if x115 = 0 then
    j_Mo_rounded_17 x0 x1 x0 0 M113
  else
    j_Mo_rounded_17 x0 x1 x0 1 M113
set_option maxHeartbeats 4000000 in
set_option maxRecDepth 100000 in
theorem w_Mo_rounded_17 {p : Program} {l : Launch} {e : Env} {s : State} {m : MethodId} {args : Array Value} {below : List Frame} {meth : Method} {c : Code} {G : fm_G} (C0 : fm_C p s m args meth c G (.code y_Mo_rounded b_Mo_rounded 2 (some .long)) "AllocationProfilerModel" b_Mo_rounded 2 (some .long)) {v : Int64} {M' : fm_M} (x0 : Nat) (x1 : Int32) (s0 : Nat) (s1 : Int32) {M : fm_M} {H : Heap} {locs : List Loc} (hP : kP G M H) (hS : kS G s H locs) {ls : Array Slot} (hl : lv_has ls 2 [(0, .ref (G.2.2 + x0)), (1, .int x1)]) (h : j_Mo_rounded_17 x0 x1 s0 s1 M = some (v, M')) : W p l e rm_Mo_rounded s m args below meth c H locs 0 0 (MQ below (fm_Q G 212 shF (some (.long v)) M') args s 0 0 (fm_A G.2.2)) (F0 m 17 ls [.int s1, .ref (G.2.2 + s0)]) := by
  have hx := C0.1
  have hb := C0.2.1
  have hown := C0.2.2.2.2.1
  have hts := C0.2.2.2.2.2.1
  unfold j_Mo_rounded_17 at h
  obtain ⟨M101, e102, h⟩ := ob h
  refine k_pi C0 F_Mo_122p ik_10_0 hP hS e102 d_Mo_rounded_17 (fun H locs hP hS => ?_)
  refine lv_aload_n hx hb d_Mo_rounded_20 rfl (lv_at hl 0 rfl) ?_
  obtain ⟨x103, e104, h⟩ := ob h
  refine k_gi C0 F_Mo_122 ik_10_0 hP e104 d_Mo_rounded_21 ?_
  refine lv_if_le (tgt := 31) hx hb d_Mo_rounded_24 (by decide) (fun c105 => ?_) (fun c105 => ?_)
  · rw [if_pos c105] at h
    refine lv_aload_n hx hb d_Mo_rounded_31 rfl (lv_at hl 0 rfl) ?_
    refine lv_iload_n hx hb d_Mo_rounded_32 rfl (lv_at hl 1 rfl) ?_
    obtain ⟨_, e106, h⟩ := ob h
    obtain ⟨x109, M107, e108, h⟩ := ob2 h
    refine k_cV C0 L_Mo_285 (As := [.int x1]) (c_Mo_estimated l G x0 x1 e108) ⟨rfl, rfl⟩ ⟨Nat.le_of_ble_eq_true rfl, Nat.le_of_ble_eq_true rfl⟩ hP hS (ck_of e106) ly_Mo rfl hl.1 rfl (Nat.le_of_ble_eq_true rfl) d_Mo_rounded_33 ⟨Nat.zero_le _, Nat.zero_le _⟩ (fun H locs hP hS => ?_)
    refine lv_ldc2d (v := 4602678819172646912) hx hb hown (hts _ (List.mem_cons_of_mem _ (gT_in 1353 (by decide +kernel) rfl))) d_Mo_rounded_36 ?_
    obtain ⟨_, e110, h⟩ := ob h
    refine lv_dadd hx hb d_Mo_rounded_39 (nn64_of e110) ?_
    refine lv_d2l hx hb d_Mo_rounded_40 ?_
    cases h
    exact r_lret C0 hP hS d_Mo_rounded_41
  · rw [if_neg c105] at h
    refine lv_lconst (v := 0) hx hb d_Mo_rounded_27 lc_0 ?_
    refine lv_goto (tgt := 41) hx hb d_Mo_rounded_28 (by decide) ?_
    cases h
    exact r_lret C0 hP hS d_Mo_rounded_41
set_option maxHeartbeats 4000000 in
set_option maxRecDepth 100000 in
theorem c_Mo_rounded (l : Launch) (G : fm_G) (x0 : Nat) (x1 : Int32) {v : Int64} {M M' : fm_M} (h : f_Mo_rounded x0 x1 M = some (v, M')) : kMet l y_Mo_rounded b_Mo_rounded 2 (some .long) rm_Mo_rounded G M [.ref (G.2.2 + x0), .int x1] (some (.long v)) M' := by
  refine r_met (by decide) rfl (Nat.le_of_ble_eq_true rfl) (fun p e s m args below meth c C0 hP ls hl => ?_)
  have hx := C0.1
  have hb := C0.2.1
  have hown := C0.2.2.2.2.1
  have hts := C0.2.2.2.2.2.1
  have hl : lv_has ls 2 [(0, .ref (G.2.2 + x0)), (1, .int x1)] := hl
  have hS : va_S (fm_A G.2.2) s.heap s.heap [] := va_S.rf
  unfold f_Mo_rounded at h
  refine lv_aload_n hx hb d_Mo_rounded_0 rfl (lv_at hl 0 rfl) ?_
  refine lv_iload_n hx hb d_Mo_rounded_1 rfl (lv_at hl 1 rfl) ?_
  refine lv_aload_n hx hb d_Mo_rounded_2 rfl (lv_at hl 0 rfl) ?_
  obtain ⟨x111, e112, h⟩ := ob h
  refine k_gi C0 F_Mo_192 ik_10_23 hP e112 d_Mo_rounded_3 ?_
  obtain ⟨x115, M113, e114, h⟩ := ob2 h
  refine k_cS C0 L_Mo_128 (As := [.int x1, .int x111]) (c_Mo_out l G x1 x111 e114) ⟨rfl, rfl⟩ ⟨Nat.le_of_ble_eq_true rfl, Nat.le_of_ble_eq_true rfl⟩ hP hS rfl hl.1 rfl (Nat.le_of_ble_eq_true rfl) d_Mo_rounded_6 ⟨Nat.zero_le _, Nat.zero_le _⟩ (fun H locs hP hS => ?_)
  refine lv_if_eq (tgt := 16) hx hb d_Mo_rounded_9 (by decide) (fun c116 => ?_) (fun c116 => ?_)
  · rw [if_pos c116] at h
    refine lv_iconst (v := 0) hx hb d_Mo_rounded_16 ic_0 ?_
    exact w_Mo_rounded_17 C0 x0 x1 x0 0 hP hS (lv_sub hl [0, 1] rfl) h
  · rw [if_neg c116] at h
    refine lv_iconst (v := 1) hx hb d_Mo_rounded_12 ic_1 ?_
    refine lv_goto (tgt := 17) hx hb d_Mo_rounded_13 (by decide) ?_
    exact w_Mo_rounded_17 C0 x0 x1 x0 1 hP hS (lv_sub hl [0, 1] rfl) h
