/-! AllocationProfiler$Checker.wrongRange -/
def rm_Checker_wrongRange : Room := { frames := 1, cells := 0, slots := 0, locals := 21 }
theorem d_Checker_wrongRange_0 : decode b_Checker_wrongRange 0 = .ok (.iconst 0, 1) := by decide +kernel
theorem d_Checker_wrongRange_1 : decode b_Checker_wrongRange 1 = .ok (.istore_n 1, 1) := by decide +kernel
theorem d_Checker_wrongRange_2 : decode b_Checker_wrongRange 2 = .ok (.iload_n 1, 1) := by decide +kernel
theorem d_Checker_wrongRange_3 : decode b_Checker_wrongRange 3 = .ok (.aload_n 0, 1) := by decide +kernel
theorem d_Checker_wrongRange_4 : decode b_Checker_wrongRange 4 = .ok (.getfield 71, 3) := by decide +kernel
theorem d_Checker_wrongRange_7 : decode b_Checker_wrongRange 7 = .ok (.if_icmp .ge 74, 3) := by decide +kernel
theorem d_Checker_wrongRange_10 : decode b_Checker_wrongRange 10 = .ok (.aload_n 0, 1) := by decide +kernel
theorem d_Checker_wrongRange_11 : decode b_Checker_wrongRange 11 = .ok (.getfield 74, 3) := by decide +kernel
theorem d_Checker_wrongRange_14 : decode b_Checker_wrongRange 14 = .ok (.iload_n 1, 1) := by decide +kernel
theorem d_Checker_wrongRange_15 : decode b_Checker_wrongRange 15 = .ok (.iaload, 1) := by decide +kernel
theorem d_Checker_wrongRange_16 : decode b_Checker_wrongRange 16 = .ok (.ifCond .lt 22, 3) := by decide +kernel
theorem d_Checker_wrongRange_19 : decode b_Checker_wrongRange 19 = .ok (.aload_n 0, 1) := by decide +kernel
theorem d_Checker_wrongRange_20 : decode b_Checker_wrongRange 20 = .ok (.getfield 74, 3) := by decide +kernel
theorem d_Checker_wrongRange_23 : decode b_Checker_wrongRange 23 = .ok (.iload_n 1, 1) := by decide +kernel
theorem d_Checker_wrongRange_24 : decode b_Checker_wrongRange 24 = .ok (.iaload, 1) := by decide +kernel
theorem d_Checker_wrongRange_25 : decode b_Checker_wrongRange 25 = .ok (.aload_n 0, 1) := by decide +kernel
theorem d_Checker_wrongRange_26 : decode b_Checker_wrongRange 26 = .ok (.getfield 77, 3) := by decide +kernel
theorem d_Checker_wrongRange_29 : decode b_Checker_wrongRange 29 = .ok (.iload_n 1, 1) := by decide +kernel
theorem d_Checker_wrongRange_30 : decode b_Checker_wrongRange 30 = .ok (.iaload, 1) := by decide +kernel
theorem d_Checker_wrongRange_31 : decode b_Checker_wrongRange 31 = .ok (.if_icmp .ge 7, 3) := by decide +kernel
theorem d_Checker_wrongRange_34 : decode b_Checker_wrongRange 34 = .ok (.iconst 1, 1) := by decide +kernel
theorem d_Checker_wrongRange_35 : decode b_Checker_wrongRange 35 = .ok (.goto 4, 3) := by decide +kernel
theorem d_Checker_wrongRange_38 : decode b_Checker_wrongRange 38 = .ok (.iconst 0, 1) := by decide +kernel
theorem d_Checker_wrongRange_39 : decode b_Checker_wrongRange 39 = .ok (.istore_n 2, 1) := by decide +kernel
theorem d_Checker_wrongRange_40 : decode b_Checker_wrongRange 40 = .ok (.iload_n 2, 1) := by decide +kernel
theorem d_Checker_wrongRange_41 : decode b_Checker_wrongRange 41 = .ok (.ifCond .eq 29, 3) := by decide +kernel
theorem d_Checker_wrongRange_44 : decode b_Checker_wrongRange 44 = .ok (.aload_n 0, 1) := by decide +kernel
theorem d_Checker_wrongRange_45 : decode b_Checker_wrongRange 45 = .ok (.getfield 77, 3) := by decide +kernel
theorem d_Checker_wrongRange_48 : decode b_Checker_wrongRange 48 = .ok (.iload_n 1, 1) := by decide +kernel
theorem d_Checker_wrongRange_49 : decode b_Checker_wrongRange 49 = .ok (.iaload, 1) := by decide +kernel
theorem d_Checker_wrongRange_50 : decode b_Checker_wrongRange 50 = .ok (.aload_n 0, 1) := by decide +kernel
theorem d_Checker_wrongRange_51 : decode b_Checker_wrongRange 51 = .ok (.getfield 36, 3) := by decide +kernel
theorem d_Checker_wrongRange_54 : decode b_Checker_wrongRange 54 = .ok (.if_icmp .gt 16, 3) := by decide +kernel
theorem d_Checker_wrongRange_57 : decode b_Checker_wrongRange 57 = .ok (.aload_n 0, 1) := by decide +kernel
theorem d_Checker_wrongRange_58 : decode b_Checker_wrongRange 58 = .ok (.aload_n 0, 1) := by decide +kernel
theorem d_Checker_wrongRange_59 : decode b_Checker_wrongRange 59 = .ok (.getfield 80, 3) := by decide +kernel
theorem d_Checker_wrongRange_62 : decode b_Checker_wrongRange 62 = .ok (.iload_n 1, 1) := by decide +kernel
theorem d_Checker_wrongRange_63 : decode b_Checker_wrongRange 63 = .ok (.iaload, 1) := by decide +kernel
theorem d_Checker_wrongRange_64 : decode b_Checker_wrongRange 64 = .ok (.invokevirtual 56, 3) := by decide +kernel
theorem d_Checker_wrongRange_67 : decode b_Checker_wrongRange 67 = .ok (.ifCond .ne 8, 3) := by decide +kernel
theorem d_Checker_wrongRange_70 : decode b_Checker_wrongRange 70 = .ok (.bipush 24, 2) := by decide +kernel
theorem d_Checker_wrongRange_72 : decode b_Checker_wrongRange 72 = .ok (.iload_n 1, 1) := by decide +kernel
theorem d_Checker_wrongRange_73 : decode b_Checker_wrongRange 73 = .ok (.iadd, 1) := by decide +kernel
theorem d_Checker_wrongRange_74 : decode b_Checker_wrongRange 74 = .ok (.ireturn, 1) := by decide +kernel
theorem d_Checker_wrongRange_75 : decode b_Checker_wrongRange 75 = .ok (.iinc 1 1, 3) := by decide +kernel
theorem d_Checker_wrongRange_78 : decode b_Checker_wrongRange 78 = .ok (.goto (-76), 3) := by decide +kernel
theorem d_Checker_wrongRange_81 : decode b_Checker_wrongRange 81 = .ok (.iconst (-1), 1) := by decide +kernel
theorem d_Checker_wrongRange_82 : decode b_Checker_wrongRange 82 = .ok (.ireturn, 1) := by decide +kernel
def j_Checker_wrongRange_39 (k2 : Nat → Int32 → fm_M → Option (Int32 × fm_M)) (x0 : Nat) (x1 : Int32) (s0 : Int32) (M : fm_M) : Option (Int32 × fm_M) :=
  if s0 = 0 then
    some ((24 + x1), M)
  else
    (gr x0 1 3).bind fun q102 =>
    (ai q102 x1 M).bind fun x104 =>
    (gi x0 1 5 M).bind fun x106 =>
    if x106 < x104 then
      some ((24 + x1), M)
    else
      (gr x0 1 4).bind fun q109 =>
      (ai q109 x1 M).bind fun x111 =>
      (ck x0 1).bind fun _ =>
      bd (f_Code_has x0 x111 M) fun x116 M114 =>
      if x116 = 0 then
        some ((24 + x1), M114)
      else
        k2 x0 (x1 + 1) M114
def j_Checker_wrongRange_38 (k2 : Nat → Int32 → fm_M → Option (Int32 × fm_M)) (x0 : Nat) (x1 : Int32) (M : fm_M) : Option (Int32 × fm_M) :=
  j_Checker_wrongRange_39 k2 x0 x1 0 M
def h_Checker_wrongRange_2 : Nat → Nat → Int32 → fm_M → Option (Int32 × fm_M)
  | 0, _, _, _ => none
  | n + 1, x0, x1, M =>
    (gi x0 1 6 M).bind fun x118 =>
    if x118 ≤ x1 then
      some ((-1), M)
    else
      (gr x0 1 2).bind fun q121 =>
      (ai q121 x1 M).bind fun x123 =>
      if x123 < 0 then
        j_Checker_wrongRange_38 (h_Checker_wrongRange_2 n) x0 x1 M
      else
        (gr x0 1 2).bind fun q126 =>
        (ai q126 x1 M).bind fun x128 =>
        (gr x0 1 3).bind fun q130 =>
        (ai q130 x1 M).bind fun x132 =>
        if x132 ≤ x128 then
          j_Checker_wrongRange_38 (h_Checker_wrongRange_2 n) x0 x1 M
        else
          j_Checker_wrongRange_39 (h_Checker_wrongRange_2 n) x0 x1 1 M
def f_Checker_wrongRange (x0 : Nat) (M : fm_M) : Option (Int32 × fm_M) :=
  h_Checker_wrongRange_2 100000 x0 0 M
set_option maxHeartbeats 4000000 in
set_option maxRecDepth 100000 in
theorem w_Checker_wrongRange_39 {p : Program} {l : Launch} {e : Env} {s : State} {m : MethodId} {args : Array Value} {below : List Frame} {meth : Method} {c : Code} {G : fm_G} (C0 : fm_C p s m args meth c G (.code y_Checker_wrongRange b_Checker_wrongRange 3 (some .int)) "AllocationProfiler$Checker" b_Checker_wrongRange 3 (some .int)) {v : Int32} {M' : fm_M} (k2 : Nat → Int32 → fm_M → Option (Int32 × fm_M)) (hk2 : ∀ (x0 : Nat) (x1 : Int32) {M : fm_M} {H : Heap} {locs : List Loc}, kP G M H → kS G s H locs → ∀ {ls : Array Slot}, lv_has ls 3 [(0, .ref (G.2.2 + x0)), (1, .int x1)] → k2 x0 x1 M = some (v, M') → W p l e rm_Checker_wrongRange s m args below meth c H locs 0 0 (MQ below (fm_Q G 212 shF (some (.int v)) M') args s 0 0 (fm_A G.2.2)) (F0 m 2 ls [])) (x0 : Nat) (x1 : Int32) (s0 : Int32) {M : fm_M} {H : Heap} {locs : List Loc} (hP : kP G M H) (hS : kS G s H locs) {ls : Array Slot} (hl : lv_has ls 3 [(0, .ref (G.2.2 + x0)), (1, .int x1)]) (h : j_Checker_wrongRange_39 k2 x0 x1 s0 M = some (v, M')) : W p l e rm_Checker_wrongRange s m args below meth c H locs 0 0 (MQ below (fm_Q G 212 shF (some (.int v)) M') args s 0 0 (fm_A G.2.2)) (F0 m 39 ls [.int s0]) := by
  have hx := C0.1
  have hb := C0.2.1
  unfold j_Checker_wrongRange_39 at h
  refine lv_istore_n (lv' := [(2, .int s0), (0, .ref (G.2.2 + x0)), (1, .int x1)]) hx hb d_Checker_wrongRange_39 rfl hl (by decide) rfl (fun ls hl => ?_)
  refine lv_iload_n hx hb d_Checker_wrongRange_40 rfl (lv_at hl 0 rfl) ?_
  refine lv_if_eq (tgt := 70) hx hb d_Checker_wrongRange_41 (by decide) (fun c101 => ?_) (fun c101 => ?_)
  · rw [if_pos c101] at h
    refine lv_bipush (v := 24) hx hb d_Checker_wrongRange_70 bp_24 ?_
    refine lv_iload_n hx hb d_Checker_wrongRange_72 rfl (lv_at hl 2 rfl) ?_
    refine lv_iadd hx hb d_Checker_wrongRange_73 ?_
    cases h
    exact r_iret C0 hP hS d_Checker_wrongRange_74
  · rw [if_neg c101] at h
    refine lv_aload_n hx hb d_Checker_wrongRange_44 rfl (lv_at hl 1 rfl) ?_
    obtain ⟨q102, e103, h⟩ := ob h
    refine k_gr C0 F_Checker_77 hP e103 d_Checker_wrongRange_45 ?_
    refine lv_iload_n hx hb d_Checker_wrongRange_48 rfl (lv_at hl 2 rfl) ?_
    obtain ⟨x104, e105, h⟩ := ob h
    refine k_ai C0 hP e105 d_Checker_wrongRange_49 ?_
    refine lv_aload_n hx hb d_Checker_wrongRange_50 rfl (lv_at hl 1 rfl) ?_
    obtain ⟨x106, e107, h⟩ := ob h
    refine k_gi C0 F_Checker_36 ik_1_5 hP e107 d_Checker_wrongRange_51 ?_
    refine lv_icmp_gt (tgt := 70) hx hb d_Checker_wrongRange_54 (by decide) (fun c108 => ?_) (fun c108 => ?_)
    · rw [if_pos c108] at h
      refine lv_bipush (v := 24) hx hb d_Checker_wrongRange_70 bp_24 ?_
      refine lv_iload_n hx hb d_Checker_wrongRange_72 rfl (lv_at hl 2 rfl) ?_
      refine lv_iadd hx hb d_Checker_wrongRange_73 ?_
      cases h
      exact r_iret C0 hP hS d_Checker_wrongRange_74
    · rw [if_neg c108] at h
      refine lv_aload_n hx hb d_Checker_wrongRange_57 rfl (lv_at hl 1 rfl) ?_
      refine lv_aload_n hx hb d_Checker_wrongRange_58 rfl (lv_at hl 1 rfl) ?_
      obtain ⟨q109, e110, h⟩ := ob h
      refine k_gr C0 F_Checker_80 hP e110 d_Checker_wrongRange_59 ?_
      refine lv_iload_n hx hb d_Checker_wrongRange_62 rfl (lv_at hl 2 rfl) ?_
      obtain ⟨x111, e112, h⟩ := ob h
      refine k_ai C0 hP e112 d_Checker_wrongRange_63 ?_
      obtain ⟨_, e113, h⟩ := ob h
      obtain ⟨x116, M114, e115, h⟩ := ob2 h
      refine k_cV C0 L_Checker_56 (As := [.int x111]) (c_Code_has l G x0 x111 e115) ⟨rfl, rfl⟩ ⟨Nat.le_of_ble_eq_true rfl, Nat.le_of_ble_eq_true rfl⟩ hP hS (ck_of e113) ly_Code rfl hl.1 rfl (Nat.le_of_ble_eq_true rfl) d_Checker_wrongRange_64 ⟨Nat.zero_le _, Nat.zero_le _⟩ (fun H locs hP hS => ?_)
      refine lv_if_ne (tgt := 75) hx hb d_Checker_wrongRange_67 (by decide) (fun c117 => ?_) (fun c117 => ?_)
      · rw [if_neg c117] at h
        refine lv_iinc (v := (x1 + 1)) (lv' := [(1, .int (x1 + 1)), (2, .int s0), (0, .ref (G.2.2 + x0))]) hx hb d_Checker_wrongRange_75 hl (k := 2) rfl (congrArg (fun z => x1 + z) ic_1) (by decide) rfl (fun ls hl => ?_)
        refine lv_goto (tgt := 2) hx hb d_Checker_wrongRange_78 (by decide) ?_
        exact hk2 x0 (x1 + 1) hP hS (lv_sub hl [2, 0] rfl) h
      · rw [if_pos c117] at h
        refine lv_bipush (v := 24) hx hb d_Checker_wrongRange_70 bp_24 ?_
        refine lv_iload_n hx hb d_Checker_wrongRange_72 rfl (lv_at hl 2 rfl) ?_
        refine lv_iadd hx hb d_Checker_wrongRange_73 ?_
        cases h
        exact r_iret C0 hP hS d_Checker_wrongRange_74
set_option maxHeartbeats 4000000 in
set_option maxRecDepth 100000 in
theorem w_Checker_wrongRange_38 {p : Program} {l : Launch} {e : Env} {s : State} {m : MethodId} {args : Array Value} {below : List Frame} {meth : Method} {c : Code} {G : fm_G} (C0 : fm_C p s m args meth c G (.code y_Checker_wrongRange b_Checker_wrongRange 3 (some .int)) "AllocationProfiler$Checker" b_Checker_wrongRange 3 (some .int)) {v : Int32} {M' : fm_M} (k2 : Nat → Int32 → fm_M → Option (Int32 × fm_M)) (hk2 : ∀ (x0 : Nat) (x1 : Int32) {M : fm_M} {H : Heap} {locs : List Loc}, kP G M H → kS G s H locs → ∀ {ls : Array Slot}, lv_has ls 3 [(0, .ref (G.2.2 + x0)), (1, .int x1)] → k2 x0 x1 M = some (v, M') → W p l e rm_Checker_wrongRange s m args below meth c H locs 0 0 (MQ below (fm_Q G 212 shF (some (.int v)) M') args s 0 0 (fm_A G.2.2)) (F0 m 2 ls [])) (x0 : Nat) (x1 : Int32) {M : fm_M} {H : Heap} {locs : List Loc} (hP : kP G M H) (hS : kS G s H locs) {ls : Array Slot} (hl : lv_has ls 3 [(0, .ref (G.2.2 + x0)), (1, .int x1)]) (h : j_Checker_wrongRange_38 k2 x0 x1 M = some (v, M')) : W p l e rm_Checker_wrongRange s m args below meth c H locs 0 0 (MQ below (fm_Q G 212 shF (some (.int v)) M') args s 0 0 (fm_A G.2.2)) (F0 m 38 ls []) := by
  have hx := C0.1
  have hb := C0.2.1
  unfold j_Checker_wrongRange_38 at h
  refine lv_iconst (v := 0) hx hb d_Checker_wrongRange_38 ic_0 ?_
  exact w_Checker_wrongRange_39 C0 k2 hk2 x0 x1 0 hP hS (lv_sub hl [0, 1] rfl) h
set_option maxHeartbeats 4000000 in
set_option maxRecDepth 100000 in
theorem w_Checker_wrongRange_2 {p : Program} {l : Launch} {e : Env} {s : State} {m : MethodId} {args : Array Value} {below : List Frame} {meth : Method} {c : Code} {G : fm_G} (C0 : fm_C p s m args meth c G (.code y_Checker_wrongRange b_Checker_wrongRange 3 (some .int)) "AllocationProfiler$Checker" b_Checker_wrongRange 3 (some .int)) {v : Int32} {M' : fm_M} : ∀ (n : Nat) (x0 : Nat) (x1 : Int32) {M : fm_M} {H : Heap} {locs : List Loc}, kP G M H → kS G s H locs → ∀ {ls : Array Slot}, lv_has ls 3 [(0, .ref (G.2.2 + x0)), (1, .int x1)] → h_Checker_wrongRange_2 n x0 x1 M = some (v, M') → W p l e rm_Checker_wrongRange s m args below meth c H locs 0 0 (MQ below (fm_Q G 212 shF (some (.int v)) M') args s 0 0 (fm_A G.2.2)) (F0 m 2 ls []) := by
  have hx := C0.1
  have hb := C0.2.1
  intro n
  induction n with
  | zero =>
    intro x0 x1 M H locs hP hS ls hl h
    exact nomatch h
  | succ n ih =>
    intro x0 x1 M H locs hP hS ls hl h
    have h : ((gi x0 1 6 M).bind fun x118 =>
      if x118 ≤ x1 then
        some ((-1), M)
      else
        (gr x0 1 2).bind fun q121 =>
        (ai q121 x1 M).bind fun x123 =>
        if x123 < 0 then
          j_Checker_wrongRange_38 (h_Checker_wrongRange_2 n) x0 x1 M
        else
          (gr x0 1 2).bind fun q126 =>
          (ai q126 x1 M).bind fun x128 =>
          (gr x0 1 3).bind fun q130 =>
          (ai q130 x1 M).bind fun x132 =>
          if x132 ≤ x128 then
            j_Checker_wrongRange_38 (h_Checker_wrongRange_2 n) x0 x1 M
          else
            j_Checker_wrongRange_39 (h_Checker_wrongRange_2 n) x0 x1 1 M) = some (v, M') := h
    refine lv_iload_n hx hb d_Checker_wrongRange_2 rfl (lv_at hl 1 rfl) ?_
    refine lv_aload_n hx hb d_Checker_wrongRange_3 rfl (lv_at hl 0 rfl) ?_
    obtain ⟨x118, e119, h⟩ := ob h
    refine k_gi C0 F_Checker_71 ik_1_6 hP e119 d_Checker_wrongRange_4 ?_
    refine lv_icmp_ge (tgt := 81) hx hb d_Checker_wrongRange_7 (by decide) (fun c120 => ?_) (fun c120 => ?_)
    · rw [if_pos c120] at h
      refine lv_iconst (v := (-1)) hx hb d_Checker_wrongRange_81 ic_m1 ?_
      cases h
      exact r_iret C0 hP hS d_Checker_wrongRange_82
    · rw [if_neg c120] at h
      refine lv_aload_n hx hb d_Checker_wrongRange_10 rfl (lv_at hl 0 rfl) ?_
      obtain ⟨q121, e122, h⟩ := ob h
      refine k_gr C0 F_Checker_74 hP e122 d_Checker_wrongRange_11 ?_
      refine lv_iload_n hx hb d_Checker_wrongRange_14 rfl (lv_at hl 1 rfl) ?_
      obtain ⟨x123, e124, h⟩ := ob h
      refine k_ai C0 hP e124 d_Checker_wrongRange_15 ?_
      refine lv_if_lt (tgt := 38) hx hb d_Checker_wrongRange_16 (by decide) (fun c125 => ?_) (fun c125 => ?_)
      · rw [if_pos c125] at h
        exact w_Checker_wrongRange_38 C0 (h_Checker_wrongRange_2 n) ih x0 x1 hP hS (lv_sub hl [0, 1] rfl) h
      · rw [if_neg c125] at h
        refine lv_aload_n hx hb d_Checker_wrongRange_19 rfl (lv_at hl 0 rfl) ?_
        obtain ⟨q126, e127, h⟩ := ob h
        refine k_gr C0 F_Checker_74 hP e127 d_Checker_wrongRange_20 ?_
        refine lv_iload_n hx hb d_Checker_wrongRange_23 rfl (lv_at hl 1 rfl) ?_
        obtain ⟨x128, e129, h⟩ := ob h
        refine k_ai C0 hP e129 d_Checker_wrongRange_24 ?_
        refine lv_aload_n hx hb d_Checker_wrongRange_25 rfl (lv_at hl 0 rfl) ?_
        obtain ⟨q130, e131, h⟩ := ob h
        refine k_gr C0 F_Checker_77 hP e131 d_Checker_wrongRange_26 ?_
        refine lv_iload_n hx hb d_Checker_wrongRange_29 rfl (lv_at hl 1 rfl) ?_
        obtain ⟨x132, e133, h⟩ := ob h
        refine k_ai C0 hP e133 d_Checker_wrongRange_30 ?_
        refine lv_icmp_ge (tgt := 38) hx hb d_Checker_wrongRange_31 (by decide) (fun c134 => ?_) (fun c134 => ?_)
        · rw [if_pos c134] at h
          exact w_Checker_wrongRange_38 C0 (h_Checker_wrongRange_2 n) ih x0 x1 hP hS (lv_sub hl [0, 1] rfl) h
        · rw [if_neg c134] at h
          refine lv_iconst (v := 1) hx hb d_Checker_wrongRange_34 ic_1 ?_
          refine lv_goto (tgt := 39) hx hb d_Checker_wrongRange_35 (by decide) ?_
          exact w_Checker_wrongRange_39 C0 (h_Checker_wrongRange_2 n) ih x0 x1 1 hP hS (lv_sub hl [0, 1] rfl) h
set_option maxHeartbeats 4000000 in
set_option maxRecDepth 100000 in
theorem c_Checker_wrongRange (l : Launch) (G : fm_G) (x0 : Nat) {v : Int32} {M M' : fm_M} (h : f_Checker_wrongRange x0 M = some (v, M')) : kMet l y_Checker_wrongRange b_Checker_wrongRange 3 (some .int) rm_Checker_wrongRange G M [.ref (G.2.2 + x0)] (some (.int v)) M' := by
  refine r_met (by decide) rfl (Nat.le_of_ble_eq_true rfl) (fun p e s m args below meth c C0 hP ls hl => ?_)
  have hx := C0.1
  have hb := C0.2.1
  have hl : lv_has ls 3 [(0, .ref (G.2.2 + x0))] := hl
  have hS : va_S (fm_A G.2.2) s.heap s.heap [] := va_S.rf
  unfold f_Checker_wrongRange at h
  refine lv_iconst (v := 0) hx hb d_Checker_wrongRange_0 ic_0 ?_
  refine lv_istore_n (lv' := [(1, .int 0), (0, .ref (G.2.2 + x0))]) hx hb d_Checker_wrongRange_1 rfl hl (by decide) rfl (fun ls hl => ?_)
  exact w_Checker_wrongRange_2 C0 100000 x0 0 hP hS (lv_sub hl [1, 0] rfl) h
/-! AllocationProfiler$Checker.reach -/
def rm_Checker_reach : Room := { frames := 0, cells := 0, slots := 0, locals := 0 }
theorem d_Checker_reach_0 : decode b_Checker_reach 0 = .ok (.iload_n 1, 1) := by decide +kernel
theorem d_Checker_reach_1 : decode b_Checker_reach 1 = .ok (.ifCond .lt 24, 3) := by decide +kernel
theorem d_Checker_reach_4 : decode b_Checker_reach 4 = .ok (.iload_n 1, 1) := by decide +kernel
theorem d_Checker_reach_5 : decode b_Checker_reach 5 = .ok (.aload_n 0, 1) := by decide +kernel
theorem d_Checker_reach_6 : decode b_Checker_reach 6 = .ok (.getfield 9, 3) := by decide +kernel
theorem d_Checker_reach_9 : decode b_Checker_reach 9 = .ok (.arraylength, 1) := by decide +kernel
theorem d_Checker_reach_10 : decode b_Checker_reach 10 = .ok (.if_icmp .ge 15, 3) := by decide +kernel
theorem d_Checker_reach_13 : decode b_Checker_reach 13 = .ok (.aload_n 0, 1) := by decide +kernel
theorem d_Checker_reach_14 : decode b_Checker_reach 14 = .ok (.getfield 18, 3) := by decide +kernel
theorem d_Checker_reach_17 : decode b_Checker_reach 17 = .ok (.aload_n 0, 1) := by decide +kernel
theorem d_Checker_reach_18 : decode b_Checker_reach 18 = .ok (.getfield 15, 3) := by decide +kernel
theorem d_Checker_reach_21 : decode b_Checker_reach 21 = .ok (.arraylength, 1) := by decide +kernel
theorem d_Checker_reach_22 : decode b_Checker_reach 22 = .ok (.if_icmp .lt 4, 3) := by decide +kernel
theorem d_Checker_reach_25 : decode b_Checker_reach 25 = .ok (.return_, 1) := by decide +kernel
theorem d_Checker_reach_26 : decode b_Checker_reach 26 = .ok (.aload_n 0, 1) := by decide +kernel
theorem d_Checker_reach_27 : decode b_Checker_reach 27 = .ok (.getfield 9, 3) := by decide +kernel
theorem d_Checker_reach_30 : decode b_Checker_reach 30 = .ok (.iload_n 1, 1) := by decide +kernel
theorem d_Checker_reach_31 : decode b_Checker_reach 31 = .ok (.iaload, 1) := by decide +kernel
theorem d_Checker_reach_32 : decode b_Checker_reach 32 = .ok (.iconst 1, 1) := by decide +kernel
theorem d_Checker_reach_33 : decode b_Checker_reach 33 = .ok (.iload_n 2, 1) := by decide +kernel
theorem d_Checker_reach_34 : decode b_Checker_reach 34 = .ok (.ishl, 1) := by decide +kernel
theorem d_Checker_reach_35 : decode b_Checker_reach 35 = .ok (.iand, 1) := by decide +kernel
theorem d_Checker_reach_36 : decode b_Checker_reach 36 = .ok (.ifCond .ne 40, 3) := by decide +kernel
theorem d_Checker_reach_39 : decode b_Checker_reach 39 = .ok (.aload_n 0, 1) := by decide +kernel
theorem d_Checker_reach_40 : decode b_Checker_reach 40 = .ok (.getfield 9, 3) := by decide +kernel
theorem d_Checker_reach_43 : decode b_Checker_reach 43 = .ok (.iload_n 1, 1) := by decide +kernel
theorem d_Checker_reach_44 : decode b_Checker_reach 44 = .ok (.dup2, 1) := by decide +kernel
theorem d_Checker_reach_45 : decode b_Checker_reach 45 = .ok (.iaload, 1) := by decide +kernel
theorem d_Checker_reach_46 : decode b_Checker_reach 46 = .ok (.iconst 1, 1) := by decide +kernel
theorem d_Checker_reach_47 : decode b_Checker_reach 47 = .ok (.iload_n 2, 1) := by decide +kernel
theorem d_Checker_reach_48 : decode b_Checker_reach 48 = .ok (.ishl, 1) := by decide +kernel
theorem d_Checker_reach_49 : decode b_Checker_reach 49 = .ok (.ior, 1) := by decide +kernel
theorem d_Checker_reach_50 : decode b_Checker_reach 50 = .ok (.iastore, 1) := by decide +kernel
theorem d_Checker_reach_51 : decode b_Checker_reach 51 = .ok (.aload_n 0, 1) := by decide +kernel
theorem d_Checker_reach_52 : decode b_Checker_reach 52 = .ok (.getfield 15, 3) := by decide +kernel
theorem d_Checker_reach_55 : decode b_Checker_reach 55 = .ok (.aload_n 0, 1) := by decide +kernel
theorem d_Checker_reach_56 : decode b_Checker_reach 56 = .ok (.getfield 18, 3) := by decide +kernel
theorem d_Checker_reach_59 : decode b_Checker_reach 59 = .ok (.iload_n 1, 1) := by decide +kernel
theorem d_Checker_reach_60 : decode b_Checker_reach 60 = .ok (.bipush 7, 2) := by decide +kernel
theorem d_Checker_reach_62 : decode b_Checker_reach 62 = .ok (.imul, 1) := by decide +kernel
theorem d_Checker_reach_63 : decode b_Checker_reach 63 = .ok (.iload_n 2, 1) := by decide +kernel
theorem d_Checker_reach_64 : decode b_Checker_reach 64 = .ok (.iadd, 1) := by decide +kernel
theorem d_Checker_reach_65 : decode b_Checker_reach 65 = .ok (.iastore, 1) := by decide +kernel
theorem d_Checker_reach_66 : decode b_Checker_reach 66 = .ok (.aload_n 0, 1) := by decide +kernel
theorem d_Checker_reach_67 : decode b_Checker_reach 67 = .ok (.dup, 1) := by decide +kernel
theorem d_Checker_reach_68 : decode b_Checker_reach 68 = .ok (.getfield 18, 3) := by decide +kernel
theorem d_Checker_reach_71 : decode b_Checker_reach 71 = .ok (.iconst 1, 1) := by decide +kernel
theorem d_Checker_reach_72 : decode b_Checker_reach 72 = .ok (.iadd, 1) := by decide +kernel
theorem d_Checker_reach_73 : decode b_Checker_reach 73 = .ok (.putfield 18, 3) := by decide +kernel
theorem d_Checker_reach_76 : decode b_Checker_reach 76 = .ok (.return_, 1) := by decide +kernel
def f_Checker_reach (x0 : Nat) (x1 : Int32) (x2 : Int32) (M : fm_M) : Option fm_M :=
  if x1 < 0 then
    some M
  else
    (gr x0 0 0).bind fun q102 =>
    (ln q102).bind fun x104 =>
    if x104 ≤ x1 then
      some M
    else
      (gi x0 0 2 M).bind fun x107 =>
      (gr x0 0 1).bind fun q109 =>
      (ln q109).bind fun x111 =>
      if x107 < x111 then
        (gr x0 0 0).bind fun q114 =>
        (ai q114 x1 M).bind fun x116 =>
        if (x116 &&& (1 <<< (x2 &&& 31))) = 0 then
          (gr x0 0 0).bind fun q119 =>
          (ai q119 x1 M).bind fun x121 =>
          (si q119 x1 (x121 ||| (1 <<< (x2 &&& 31))) M).bind fun M123 =>
          (gr x0 0 1).bind fun q125 =>
          (gi x0 0 2 M123).bind fun x127 =>
          (si q125 x127 ((x1 * 7) + x2) M123).bind fun M129 =>
          (gi x0 0 2 M129).bind fun x131 =>
          (pi x0 0 2 (x131 + 1) M129).bind fun M133 =>
          some M133
        else
          some M
      else
        some M
set_option maxHeartbeats 4000000 in
set_option maxRecDepth 100000 in
theorem c_Checker_reach (l : Launch) (G : fm_G) (x0 : Nat) (x1 : Int32) (x2 : Int32) {M M' : fm_M} (h : f_Checker_reach x0 x1 x2 M = some M') : kMet l y_Checker_reach b_Checker_reach 3 none rm_Checker_reach G M [.ref (G.2.2 + x0), .int x1, .int x2] none M' := by
  refine r_met (by decide) rfl (Nat.le_of_ble_eq_true rfl) (fun p e s m args below meth c C0 hP ls hl => ?_)
  have hx := C0.1
  have hb := C0.2.1
  have hl : lv_has ls 3 [(0, .ref (G.2.2 + x0)), (1, .int x1), (2, .int x2)] := hl
  have hS : va_S (fm_A G.2.2) s.heap s.heap [] := va_S.rf
  unfold f_Checker_reach at h
  refine lv_iload_n hx hb d_Checker_reach_0 rfl (lv_at hl 1 rfl) ?_
  refine lv_if_lt (tgt := 25) hx hb d_Checker_reach_1 (by decide) (fun c101 => ?_) (fun c101 => ?_)
  · rw [if_pos c101] at h
    cases h
    exact r_vret C0 hP hS d_Checker_reach_25
  · rw [if_neg c101] at h
    refine lv_iload_n hx hb d_Checker_reach_4 rfl (lv_at hl 1 rfl) ?_
    refine lv_aload_n hx hb d_Checker_reach_5 rfl (lv_at hl 0 rfl) ?_
    obtain ⟨q102, e103, h⟩ := ob h
    refine k_gr C0 F_Checker_9 hP e103 d_Checker_reach_6 ?_
    obtain ⟨x104, e105, h⟩ := ob h
    refine k_ln C0 hP e105 d_Checker_reach_9 ?_
    refine lv_icmp_ge (tgt := 25) hx hb d_Checker_reach_10 (by decide) (fun c106 => ?_) (fun c106 => ?_)
    · rw [if_pos c106] at h
      cases h
      exact r_vret C0 hP hS d_Checker_reach_25
    · rw [if_neg c106] at h
      refine lv_aload_n hx hb d_Checker_reach_13 rfl (lv_at hl 0 rfl) ?_
      obtain ⟨x107, e108, h⟩ := ob h
      refine k_gi C0 F_Checker_18 ik_0_2 hP e108 d_Checker_reach_14 ?_
      refine lv_aload_n hx hb d_Checker_reach_17 rfl (lv_at hl 0 rfl) ?_
      obtain ⟨q109, e110, h⟩ := ob h
      refine k_gr C0 F_Checker_15 hP e110 d_Checker_reach_18 ?_
      obtain ⟨x111, e112, h⟩ := ob h
      refine k_ln C0 hP e112 d_Checker_reach_21 ?_
      refine lv_icmp_lt (tgt := 26) hx hb d_Checker_reach_22 (by decide) (fun c113 => ?_) (fun c113 => ?_)
      · rw [if_pos c113] at h
        refine lv_aload_n hx hb d_Checker_reach_26 rfl (lv_at hl 0 rfl) ?_
        obtain ⟨q114, e115, h⟩ := ob h
        refine k_gr C0 F_Checker_9 hP e115 d_Checker_reach_27 ?_
        refine lv_iload_n hx hb d_Checker_reach_30 rfl (lv_at hl 1 rfl) ?_
        obtain ⟨x116, e117, h⟩ := ob h
        refine k_ai C0 hP e117 d_Checker_reach_31 ?_
        refine lv_iconst (v := 1) hx hb d_Checker_reach_32 ic_1 ?_
        refine lv_iload_n hx hb d_Checker_reach_33 rfl (lv_at hl 2 rfl) ?_
        refine lv_ishl hx hb d_Checker_reach_34 ?_
        refine lv_iand hx hb d_Checker_reach_35 ?_
        refine lv_if_ne (tgt := 76) hx hb d_Checker_reach_36 (by decide) (fun c118 => ?_) (fun c118 => ?_)
        · rw [if_neg c118] at h
          cases h
          exact r_vret C0 hP hS d_Checker_reach_76
        · rw [if_pos c118] at h
          refine lv_aload_n hx hb d_Checker_reach_39 rfl (lv_at hl 0 rfl) ?_
          obtain ⟨q119, e120, h⟩ := ob h
          refine k_gr C0 F_Checker_9 hP e120 d_Checker_reach_40 ?_
          refine lv_iload_n hx hb d_Checker_reach_43 rfl (lv_at hl 1 rfl) ?_
          refine lv_dup2_11 hx hb d_Checker_reach_44 rfl rfl ?_
          obtain ⟨x121, e122, h⟩ := ob h
          refine k_ai C0 hP e122 d_Checker_reach_45 ?_
          refine lv_iconst (v := 1) hx hb d_Checker_reach_46 ic_1 ?_
          refine lv_iload_n hx hb d_Checker_reach_47 rfl (lv_at hl 2 rfl) ?_
          refine lv_ishl hx hb d_Checker_reach_48 ?_
          refine lv_ior hx hb d_Checker_reach_49 ?_
          obtain ⟨M123, e124, h⟩ := ob h
          refine k_si C0 hP hS e124 d_Checker_reach_50 (fun H locs hP hS => ?_)
          refine lv_aload_n hx hb d_Checker_reach_51 rfl (lv_at hl 0 rfl) ?_
          obtain ⟨q125, e126, h⟩ := ob h
          refine k_gr C0 F_Checker_15 hP e126 d_Checker_reach_52 ?_
          refine lv_aload_n hx hb d_Checker_reach_55 rfl (lv_at hl 0 rfl) ?_
          obtain ⟨x127, e128, h⟩ := ob h
          refine k_gi C0 F_Checker_18 ik_0_2 hP e128 d_Checker_reach_56 ?_
          refine lv_iload_n hx hb d_Checker_reach_59 rfl (lv_at hl 1 rfl) ?_
          refine lv_bipush (v := 7) hx hb d_Checker_reach_60 bp_7 ?_
          refine lv_imul hx hb d_Checker_reach_62 ?_
          refine lv_iload_n hx hb d_Checker_reach_63 rfl (lv_at hl 2 rfl) ?_
          refine lv_iadd hx hb d_Checker_reach_64 ?_
          obtain ⟨M129, e130, h⟩ := ob h
          refine k_si C0 hP hS e130 d_Checker_reach_65 (fun H locs hP hS => ?_)
          refine lv_aload_n hx hb d_Checker_reach_66 rfl (lv_at hl 0 rfl) ?_
          refine lv_dup hx hb d_Checker_reach_67 rfl ?_
          obtain ⟨x131, e132, h⟩ := ob h
          refine k_gi C0 F_Checker_18 ik_0_2 hP e132 d_Checker_reach_68 ?_
          refine lv_iconst (v := 1) hx hb d_Checker_reach_71 ic_1 ?_
          refine lv_iadd hx hb d_Checker_reach_72 ?_
          obtain ⟨M133, e134, h⟩ := ob h
          refine k_pi C0 F_Checker_18p ik_0_2 hP hS e134 d_Checker_reach_73 (fun H locs hP hS => ?_)
          cases h
          exact r_vret C0 hP hS d_Checker_reach_76
      · rw [if_neg c113] at h
        cases h
        exact r_vret C0 hP hS d_Checker_reach_25
/-! AllocationProfiler$Checker.follow -/
def rm_Checker_follow : Room := { frames := 2, cells := 0, slots := 0, locals := 42 }
theorem d_Checker_follow_0 : decode b_Checker_follow 0 = .ok (.aload_n 1, 1) := by decide +kernel
theorem d_Checker_follow_1 : decode b_Checker_follow 1 = .ok (.iload_n 2, 1) := by decide +kernel
theorem d_Checker_follow_2 : decode b_Checker_follow 2 = .ok (.invokevirtual 45, 3) := by decide +kernel
theorem d_Checker_follow_5 : decode b_Checker_follow 5 = .ok (.istore 4, 2) := by decide +kernel
theorem d_Checker_follow_7 : decode b_Checker_follow 7 = .ok (.iload_n 3, 1) := by decide +kernel
theorem d_Checker_follow_8 : decode b_Checker_follow 8 = .ok (.iconst 5, 1) := by decide +kernel
theorem d_Checker_follow_9 : decode b_Checker_follow 9 = .ok (.if_icmp .gt 13, 3) := by decide +kernel
theorem d_Checker_follow_12 : decode b_Checker_follow 12 = .ok (.iload_n 3, 1) := by decide +kernel
theorem d_Checker_follow_13 : decode b_Checker_follow 13 = .ok (.getstatic 101, 3) := by decide +kernel
theorem d_Checker_follow_16 : decode b_Checker_follow 16 = .ok (.iload 4, 2) := by decide +kernel
theorem d_Checker_follow_18 : decode b_Checker_follow 18 = .ok (.iaload, 1) := by decide +kernel
theorem d_Checker_follow_19 : decode b_Checker_follow 19 = .ok (.if_icmp .ge 4, 3) := by decide +kernel
theorem d_Checker_follow_22 : decode b_Checker_follow 22 = .ok (.return_, 1) := by decide +kernel
theorem d_Checker_follow_23 : decode b_Checker_follow 23 = .ok (.iload_n 3, 1) := by decide +kernel
theorem d_Checker_follow_24 : decode b_Checker_follow 24 = .ok (.getstatic 101, 3) := by decide +kernel
theorem d_Checker_follow_27 : decode b_Checker_follow 27 = .ok (.iload 4, 2) := by decide +kernel
theorem d_Checker_follow_29 : decode b_Checker_follow 29 = .ok (.iaload, 1) := by decide +kernel
theorem d_Checker_follow_30 : decode b_Checker_follow 30 = .ok (.isub, 1) := by decide +kernel
theorem d_Checker_follow_31 : decode b_Checker_follow 31 = .ok (.getstatic 104, 3) := by decide +kernel
theorem d_Checker_follow_34 : decode b_Checker_follow 34 = .ok (.iload 4, 2) := by decide +kernel
theorem d_Checker_follow_36 : decode b_Checker_follow 36 = .ok (.iaload, 1) := by decide +kernel
theorem d_Checker_follow_37 : decode b_Checker_follow 37 = .ok (.iadd, 1) := by decide +kernel
theorem d_Checker_follow_38 : decode b_Checker_follow 38 = .ok (.istore 5, 2) := by decide +kernel
theorem d_Checker_follow_40 : decode b_Checker_follow 40 = .ok (.iload 4, 2) := by decide +kernel
theorem d_Checker_follow_42 : decode b_Checker_follow 42 = .ok (.invokestatic 68, 3) := by decide +kernel
theorem d_Checker_follow_45 : decode b_Checker_follow 45 = .ok (.ifCond .ne 12, 3) := by decide +kernel
theorem d_Checker_follow_48 : decode b_Checker_follow 48 = .ok (.aload_n 0, 1) := by decide +kernel
theorem d_Checker_follow_49 : decode b_Checker_follow 49 = .ok (.iload_n 2, 1) := by decide +kernel
theorem d_Checker_follow_50 : decode b_Checker_follow 50 = .ok (.iconst 1, 1) := by decide +kernel
theorem d_Checker_follow_51 : decode b_Checker_follow 51 = .ok (.iadd, 1) := by decide +kernel
theorem d_Checker_follow_52 : decode b_Checker_follow 52 = .ok (.iload 5, 2) := by decide +kernel
theorem d_Checker_follow_54 : decode b_Checker_follow 54 = .ok (.invokevirtual 89, 3) := by decide +kernel
theorem d_Checker_follow_57 : decode b_Checker_follow 57 = .ok (.iload 4, 2) := by decide +kernel
theorem d_Checker_follow_59 : decode b_Checker_follow 59 = .ok (.invokestatic 52, 3) := by decide +kernel
theorem d_Checker_follow_62 : decode b_Checker_follow 62 = .ok (.ifCond .eq 14, 3) := by decide +kernel
theorem d_Checker_follow_65 : decode b_Checker_follow 65 = .ok (.aload_n 0, 1) := by decide +kernel
theorem d_Checker_follow_66 : decode b_Checker_follow 66 = .ok (.aload_n 1, 1) := by decide +kernel
theorem d_Checker_follow_67 : decode b_Checker_follow 67 = .ok (.iload_n 2, 1) := by decide +kernel
theorem d_Checker_follow_68 : decode b_Checker_follow 68 = .ok (.invokevirtual 49, 3) := by decide +kernel
theorem d_Checker_follow_71 : decode b_Checker_follow 71 = .ok (.iload 5, 2) := by decide +kernel
theorem d_Checker_follow_73 : decode b_Checker_follow 73 = .ok (.invokevirtual 89, 3) := by decide +kernel
theorem d_Checker_follow_76 : decode b_Checker_follow 76 = .ok (.iconst 0, 1) := by decide +kernel
theorem d_Checker_follow_77 : decode b_Checker_follow 77 = .ok (.istore 6, 2) := by decide +kernel
theorem d_Checker_follow_79 : decode b_Checker_follow 79 = .ok (.iload 6, 2) := by decide +kernel
theorem d_Checker_follow_81 : decode b_Checker_follow 81 = .ok (.aload_n 1, 1) := by decide +kernel
theorem d_Checker_follow_82 : decode b_Checker_follow 82 = .ok (.getfield 71, 3) := by decide +kernel
theorem d_Checker_follow_85 : decode b_Checker_follow 85 = .ok (.if_icmp .ge 31, 3) := by decide +kernel
theorem d_Checker_follow_88 : decode b_Checker_follow 88 = .ok (.aload_n 1, 1) := by decide +kernel
theorem d_Checker_follow_89 : decode b_Checker_follow 89 = .ok (.iload 6, 2) := by decide +kernel
theorem d_Checker_follow_91 : decode b_Checker_follow 91 = .ok (.iload_n 2, 1) := by decide +kernel
theorem d_Checker_follow_92 : decode b_Checker_follow 92 = .ok (.invokevirtual 107, 3) := by decide +kernel
theorem d_Checker_follow_95 : decode b_Checker_follow 95 = .ok (.ifCond .eq 15, 3) := by decide +kernel
theorem d_Checker_follow_98 : decode b_Checker_follow 98 = .ok (.aload_n 0, 1) := by decide +kernel
theorem d_Checker_follow_99 : decode b_Checker_follow 99 = .ok (.aload_n 1, 1) := by decide +kernel
theorem d_Checker_follow_100 : decode b_Checker_follow 100 = .ok (.getfield 80, 3) := by decide +kernel
theorem d_Checker_follow_103 : decode b_Checker_follow 103 = .ok (.iload 6, 2) := by decide +kernel
theorem d_Checker_follow_105 : decode b_Checker_follow 105 = .ok (.iaload, 1) := by decide +kernel
theorem d_Checker_follow_106 : decode b_Checker_follow 106 = .ok (.iconst 1, 1) := by decide +kernel
theorem d_Checker_follow_107 : decode b_Checker_follow 107 = .ok (.invokevirtual 89, 3) := by decide +kernel
theorem d_Checker_follow_110 : decode b_Checker_follow 110 = .ok (.iinc 6 1, 3) := by decide +kernel
theorem d_Checker_follow_113 : decode b_Checker_follow 113 = .ok (.goto (-34), 3) := by decide +kernel
theorem d_Checker_follow_116 : decode b_Checker_follow 116 = .ok (.return_, 1) := by decide +kernel
def j_Checker_follow_110 (k79 : Nat → Nat → Int32 → Int32 → fm_M → Option fm_M) (x0 : Nat) (x1 : Nat) (x2 : Int32) (x6 : Int32) (M : fm_M) : Option fm_M :=
  k79 x0 x1 x2 (x6 + 1) M
def h_Checker_follow_79 : Nat → Nat → Nat → Int32 → Int32 → fm_M → Option fm_M
  | 0, _, _, _, _, _ => none
  | n + 1, x0, x1, x2, x6, M =>
    (gi x1 1 6 M).bind fun x101 =>
    if x101 ≤ x6 then
      some M
    else
      (ck x1 1).bind fun _ =>
      bd (f_Code_covers x1 x6 x2 M) fun x107 M105 =>
      if x107 = 0 then
        j_Checker_follow_110 (h_Checker_follow_79 n) x0 x1 x2 x6 M105
      else
        (gr x1 1 4).bind fun q109 =>
        (ai q109 x6 M105).bind fun x111 =>
        (ck x0 0).bind fun _ =>
        (f_Checker_reach x0 x111 1 M105).bind fun M114 =>
        j_Checker_follow_110 (h_Checker_follow_79 n) x0 x1 x2 x6 M114
def j_Checker_follow_76 (x0 : Nat) (x1 : Nat) (x2 : Int32) (M : fm_M) : Option fm_M :=
  h_Checker_follow_79 100000 x0 x1 x2 0 M
def j_Checker_follow_57 (x0 : Nat) (x1 : Nat) (x2 : Int32) (x4 : Int32) (x5 : Int32) (M : fm_M) : Option fm_M :=
  bd (f_AP_branches x4 M) fun x118 M116 =>
  if x118 = 0 then
    j_Checker_follow_76 x0 x1 x2 M116
  else
    (ck x1 1).bind fun _ =>
    bd (f_Code_argumentAt x1 x2 M116) fun x123 M121 =>
    (ck x0 0).bind fun _ =>
    (f_Checker_reach x0 x123 x5 M121).bind fun M125 =>
    j_Checker_follow_76 x0 x1 x2 M125
def f_Checker_follow (x0 : Nat) (x1 : Nat) (x2 : Int32) (x3 : Int32) (M : fm_M) : Option fm_M :=
  (ck x1 1).bind fun _ =>
  bd (f_Code_operationAt x1 x2 M) fun x130 M128 =>
  if 5 < x3 then
    some M128
  else
    (tk x130).bind fun x133 =>
    if x133 ≤ x3 then
      (tk x130).bind fun x137 =>
      (pt x130).bind fun x140 =>
      bd (f_AP_closes x130 M128) fun x144 M142 =>
      if x144 = 0 then
        (ck x0 0).bind fun _ =>
        (f_Checker_reach x0 (x2 + 1) ((x3 - x137) + x140) M142).bind fun M147 =>
        j_Checker_follow_57 x0 x1 x2 x130 ((x3 - x137) + x140) M147
      else
        j_Checker_follow_57 x0 x1 x2 x130 ((x3 - x137) + x140) M142
    else
      some M128
set_option maxHeartbeats 4000000 in
set_option maxRecDepth 100000 in
theorem w_Checker_follow_110 {p : Program} {l : Launch} {e : Env} {s : State} {m : MethodId} {args : Array Value} {below : List Frame} {meth : Method} {c : Code} {G : fm_G} (C0 : fm_C p s m args meth c G (.code y_Checker_follow b_Checker_follow 7 none) "AllocationProfiler$Checker" b_Checker_follow 7 none) {M' : fm_M} (k79 : Nat → Nat → Int32 → Int32 → fm_M → Option fm_M) (hk79 : ∀ (x0 : Nat) (x1 : Nat) (x2 : Int32) (x6 : Int32) {M : fm_M} {H : Heap} {locs : List Loc}, kP G M H → kS G s H locs → ∀ {ls : Array Slot}, lv_has ls 7 [(0, .ref (G.2.2 + x0)), (1, .ref (G.2.2 + x1)), (2, .int x2), (6, .int x6)] → k79 x0 x1 x2 x6 M = some M' → W p l e rm_Checker_follow s m args below meth c H locs 0 0 (MQ below (fm_Q G 212 shF none M') args s 0 0 (fm_A G.2.2)) (F0 m 79 ls [])) (x0 : Nat) (x1 : Nat) (x2 : Int32) (x6 : Int32) {M : fm_M} {H : Heap} {locs : List Loc} (hP : kP G M H) (hS : kS G s H locs) {ls : Array Slot} (hl : lv_has ls 7 [(0, .ref (G.2.2 + x0)), (1, .ref (G.2.2 + x1)), (2, .int x2), (6, .int x6)]) (h : j_Checker_follow_110 k79 x0 x1 x2 x6 M = some M') : W p l e rm_Checker_follow s m args below meth c H locs 0 0 (MQ below (fm_Q G 212 shF none M') args s 0 0 (fm_A G.2.2)) (F0 m 110 ls []) := by
  have hx := C0.1
  have hb := C0.2.1
  unfold j_Checker_follow_110 at h
  refine lv_iinc (v := (x6 + 1)) (lv' := [(6, .int (x6 + 1)), (0, .ref (G.2.2 + x0)), (1, .ref (G.2.2 + x1)), (2, .int x2)]) hx hb d_Checker_follow_110 hl (k := 3) rfl (congrArg (fun z => x6 + z) ic_1) (by decide) rfl (fun ls hl => ?_)
  refine lv_goto (tgt := 79) hx hb d_Checker_follow_113 (by decide) ?_
  exact hk79 x0 x1 x2 (x6 + 1) hP hS (lv_sub hl [1, 2, 3, 0] rfl) h
set_option maxHeartbeats 4000000 in
set_option maxRecDepth 100000 in
theorem w_Checker_follow_79 {p : Program} {l : Launch} {e : Env} {s : State} {m : MethodId} {args : Array Value} {below : List Frame} {meth : Method} {c : Code} {G : fm_G} (C0 : fm_C p s m args meth c G (.code y_Checker_follow b_Checker_follow 7 none) "AllocationProfiler$Checker" b_Checker_follow 7 none) {M' : fm_M} : ∀ (n : Nat) (x0 : Nat) (x1 : Nat) (x2 : Int32) (x6 : Int32) {M : fm_M} {H : Heap} {locs : List Loc}, kP G M H → kS G s H locs → ∀ {ls : Array Slot}, lv_has ls 7 [(0, .ref (G.2.2 + x0)), (1, .ref (G.2.2 + x1)), (2, .int x2), (6, .int x6)] → h_Checker_follow_79 n x0 x1 x2 x6 M = some M' → W p l e rm_Checker_follow s m args below meth c H locs 0 0 (MQ below (fm_Q G 212 shF none M') args s 0 0 (fm_A G.2.2)) (F0 m 79 ls []) := by
  have hx := C0.1
  have hb := C0.2.1
  intro n
  induction n with
  | zero =>
    intro x0 x1 x2 x6 M H locs hP hS ls hl h
    exact nomatch h
  | succ n ih =>
    intro x0 x1 x2 x6 M H locs hP hS ls hl h
    have h : ((gi x1 1 6 M).bind fun x101 =>
      if x101 ≤ x6 then
        some M
      else
        (ck x1 1).bind fun _ =>
        bd (f_Code_covers x1 x6 x2 M) fun x107 M105 =>
        if x107 = 0 then
          j_Checker_follow_110 (h_Checker_follow_79 n) x0 x1 x2 x6 M105
        else
          (gr x1 1 4).bind fun q109 =>
          (ai q109 x6 M105).bind fun x111 =>
          (ck x0 0).bind fun _ =>
          (f_Checker_reach x0 x111 1 M105).bind fun M114 =>
          j_Checker_follow_110 (h_Checker_follow_79 n) x0 x1 x2 x6 M114) = some M' := h
    refine lv_iload hx hb d_Checker_follow_79 (lv_at hl 3 rfl) ?_
    refine lv_aload_n hx hb d_Checker_follow_81 rfl (lv_at hl 1 rfl) ?_
    obtain ⟨x101, e102, h⟩ := ob h
    refine k_gi C0 F_Checker_71 ik_1_6 hP e102 d_Checker_follow_82 ?_
    refine lv_icmp_ge (tgt := 116) hx hb d_Checker_follow_85 (by decide) (fun c103 => ?_) (fun c103 => ?_)
    · rw [if_pos c103] at h
      cases h
      exact r_vret C0 hP hS d_Checker_follow_116
    · rw [if_neg c103] at h
      refine lv_aload_n hx hb d_Checker_follow_88 rfl (lv_at hl 1 rfl) ?_
      refine lv_iload hx hb d_Checker_follow_89 (lv_at hl 3 rfl) ?_
      refine lv_iload_n hx hb d_Checker_follow_91 rfl (lv_at hl 2 rfl) ?_
      obtain ⟨_, e104, h⟩ := ob h
      obtain ⟨x107, M105, e106, h⟩ := ob2 h
      refine k_cV C0 L_Checker_107 (As := [.int x6, .int x2]) (c_Code_covers l G x1 x6 x2 e106) ⟨rfl, rfl⟩ ⟨Nat.le_of_ble_eq_true rfl, Nat.le_of_ble_eq_true rfl⟩ hP hS (ck_of e104) ly_Code rfl hl.1 rfl (Nat.le_of_ble_eq_true rfl) d_Checker_follow_92 ⟨Nat.zero_le _, Nat.zero_le _⟩ (fun H locs hP hS => ?_)
      refine lv_if_eq (tgt := 110) hx hb d_Checker_follow_95 (by decide) (fun c108 => ?_) (fun c108 => ?_)
      · rw [if_pos c108] at h
        exact w_Checker_follow_110 C0 (h_Checker_follow_79 n) ih x0 x1 x2 x6 hP hS (lv_sub hl [0, 1, 2, 3] rfl) h
      · rw [if_neg c108] at h
        refine lv_aload_n hx hb d_Checker_follow_98 rfl (lv_at hl 0 rfl) ?_
        refine lv_aload_n hx hb d_Checker_follow_99 rfl (lv_at hl 1 rfl) ?_
        obtain ⟨q109, e110, h⟩ := ob h
        refine k_gr C0 F_Checker_80 hP e110 d_Checker_follow_100 ?_
        refine lv_iload hx hb d_Checker_follow_103 (lv_at hl 3 rfl) ?_
        obtain ⟨x111, e112, h⟩ := ob h
        refine k_ai C0 hP e112 d_Checker_follow_105 ?_
        refine lv_iconst (v := 1) hx hb d_Checker_follow_106 ic_1 ?_
        obtain ⟨_, e113, h⟩ := ob h
        obtain ⟨M114, e115, h⟩ := ob h
        refine k_cVv C0 L_Checker_89 (As := [.int x111, .int 1]) (c_Checker_reach l G x0 x111 1 e115) ⟨rfl, rfl⟩ ⟨Nat.le_of_ble_eq_true rfl, Nat.le_of_ble_eq_true rfl⟩ hP hS (ck_of e113) ly_Checker rfl hl.1 rfl (Nat.le_of_ble_eq_true rfl) d_Checker_follow_107 ⟨Nat.zero_le _, Nat.zero_le _⟩ (fun H locs hP hS => ?_)
        exact w_Checker_follow_110 C0 (h_Checker_follow_79 n) ih x0 x1 x2 x6 hP hS (lv_sub hl [0, 1, 2, 3] rfl) h
set_option maxHeartbeats 4000000 in
set_option maxRecDepth 100000 in
theorem w_Checker_follow_76 {p : Program} {l : Launch} {e : Env} {s : State} {m : MethodId} {args : Array Value} {below : List Frame} {meth : Method} {c : Code} {G : fm_G} (C0 : fm_C p s m args meth c G (.code y_Checker_follow b_Checker_follow 7 none) "AllocationProfiler$Checker" b_Checker_follow 7 none) {M' : fm_M} (x0 : Nat) (x1 : Nat) (x2 : Int32) {M : fm_M} {H : Heap} {locs : List Loc} (hP : kP G M H) (hS : kS G s H locs) {ls : Array Slot} (hl : lv_has ls 7 [(0, .ref (G.2.2 + x0)), (1, .ref (G.2.2 + x1)), (2, .int x2)]) (h : j_Checker_follow_76 x0 x1 x2 M = some M') : W p l e rm_Checker_follow s m args below meth c H locs 0 0 (MQ below (fm_Q G 212 shF none M') args s 0 0 (fm_A G.2.2)) (F0 m 76 ls []) := by
  have hx := C0.1
  have hb := C0.2.1
  unfold j_Checker_follow_76 at h
  refine lv_iconst (v := 0) hx hb d_Checker_follow_76 ic_0 ?_
  refine lv_istore (lv' := [(6, .int 0), (0, .ref (G.2.2 + x0)), (1, .ref (G.2.2 + x1)), (2, .int x2)]) hx hb d_Checker_follow_77 hl (by decide) rfl (fun ls hl => ?_)
  exact w_Checker_follow_79 C0 100000 x0 x1 x2 0 hP hS (lv_sub hl [1, 2, 3, 0] rfl) h
set_option maxHeartbeats 4000000 in
set_option maxRecDepth 100000 in
theorem w_Checker_follow_57 {p : Program} {l : Launch} {e : Env} {s : State} {m : MethodId} {args : Array Value} {below : List Frame} {meth : Method} {c : Code} {G : fm_G} (C0 : fm_C p s m args meth c G (.code y_Checker_follow b_Checker_follow 7 none) "AllocationProfiler$Checker" b_Checker_follow 7 none) {M' : fm_M} (x0 : Nat) (x1 : Nat) (x2 : Int32) (x4 : Int32) (x5 : Int32) {M : fm_M} {H : Heap} {locs : List Loc} (hP : kP G M H) (hS : kS G s H locs) {ls : Array Slot} (hl : lv_has ls 7 [(0, .ref (G.2.2 + x0)), (1, .ref (G.2.2 + x1)), (2, .int x2), (4, .int x4), (5, .int x5)]) (h : j_Checker_follow_57 x0 x1 x2 x4 x5 M = some M') : W p l e rm_Checker_follow s m args below meth c H locs 0 0 (MQ below (fm_Q G 212 shF none M') args s 0 0 (fm_A G.2.2)) (F0 m 57 ls []) := by
  have hx := C0.1
  have hb := C0.2.1
  unfold j_Checker_follow_57 at h
  refine lv_iload hx hb d_Checker_follow_57 (lv_at hl 3 rfl) ?_
  obtain ⟨x118, M116, e117, h⟩ := ob2 h
  refine k_cSN C0 L_Checker_52 (As := [.int x4]) (c_AP_branches l G x4 e117) ⟨rfl, rfl⟩ ⟨Nat.le_of_ble_eq_true rfl, Nat.le_of_ble_eq_true rfl⟩ hP hS rfl hl.1 rfl (Nat.le_of_ble_eq_true rfl) d_Checker_follow_59 ⟨Nat.zero_le _, Nat.zero_le _⟩ (fun H locs hP hS => ?_)
  refine lv_if_eq (tgt := 76) hx hb d_Checker_follow_62 (by decide) (fun c119 => ?_) (fun c119 => ?_)
  · rw [if_pos c119] at h
    exact w_Checker_follow_76 C0 x0 x1 x2 hP hS (lv_sub hl [0, 1, 2] rfl) h
  · rw [if_neg c119] at h
    refine lv_aload_n hx hb d_Checker_follow_65 rfl (lv_at hl 0 rfl) ?_
    refine lv_aload_n hx hb d_Checker_follow_66 rfl (lv_at hl 1 rfl) ?_
    refine lv_iload_n hx hb d_Checker_follow_67 rfl (lv_at hl 2 rfl) ?_
    obtain ⟨_, e120, h⟩ := ob h
    obtain ⟨x123, M121, e122, h⟩ := ob2 h
    refine k_cV C0 L_Checker_49 (As := [.int x2]) (c_Code_argumentAt l G x1 x2 e122) ⟨rfl, rfl⟩ ⟨Nat.le_of_ble_eq_true rfl, Nat.le_of_ble_eq_true rfl⟩ hP hS (ck_of e120) ly_Code rfl hl.1 rfl (Nat.le_of_ble_eq_true rfl) d_Checker_follow_68 ⟨Nat.zero_le _, Nat.zero_le _⟩ (fun H locs hP hS => ?_)
    refine lv_iload hx hb d_Checker_follow_71 (lv_at hl 4 rfl) ?_
    obtain ⟨_, e124, h⟩ := ob h
    obtain ⟨M125, e126, h⟩ := ob h
    refine k_cVv C0 L_Checker_89 (As := [.int x123, .int x5]) (c_Checker_reach l G x0 x123 x5 e126) ⟨rfl, rfl⟩ ⟨Nat.le_of_ble_eq_true rfl, Nat.le_of_ble_eq_true rfl⟩ hP hS (ck_of e124) ly_Checker rfl hl.1 rfl (Nat.le_of_ble_eq_true rfl) d_Checker_follow_73 ⟨Nat.zero_le _, Nat.zero_le _⟩ (fun H locs hP hS => ?_)
    exact w_Checker_follow_76 C0 x0 x1 x2 hP hS (lv_sub hl [0, 1, 2] rfl) h
set_option maxHeartbeats 4000000 in
set_option maxRecDepth 100000 in
theorem c_Checker_follow (l : Launch) (G : fm_G) (x0 : Nat) (x1 : Nat) (x2 : Int32) (x3 : Int32) {M M' : fm_M} (h : f_Checker_follow x0 x1 x2 x3 M = some M') : kMet l y_Checker_follow b_Checker_follow 7 none rm_Checker_follow G M [.ref (G.2.2 + x0), .ref (G.2.2 + x1), .int x2, .int x3] none M' := by
  refine r_met (by decide) rfl (Nat.le_of_ble_eq_true rfl) (fun p e s m args below meth c C0 hP ls hl => ?_)
  have hx := C0.1
  have hb := C0.2.1
  have hl : lv_has ls 7 [(0, .ref (G.2.2 + x0)), (1, .ref (G.2.2 + x1)), (2, .int x2), (3, .int x3)] := hl
  have hS : va_S (fm_A G.2.2) s.heap s.heap [] := va_S.rf
  unfold f_Checker_follow at h
  refine lv_aload_n hx hb d_Checker_follow_0 rfl (lv_at hl 1 rfl) ?_
  refine lv_iload_n hx hb d_Checker_follow_1 rfl (lv_at hl 2 rfl) ?_
  obtain ⟨_, e127, h⟩ := ob h
  obtain ⟨x130, M128, e129, h⟩ := ob2 h
  refine k_cV C0 L_Checker_45 (As := [.int x2]) (c_Code_operationAt l G x1 x2 e129) ⟨rfl, rfl⟩ ⟨Nat.le_of_ble_eq_true rfl, Nat.le_of_ble_eq_true rfl⟩ hP hS (ck_of e127) ly_Code rfl hl.1 rfl (Nat.le_of_ble_eq_true rfl) d_Checker_follow_2 ⟨Nat.zero_le _, Nat.zero_le _⟩ (fun H locs hP hS => ?_)
  refine lv_istore (lv' := [(4, .int x130), (0, .ref (G.2.2 + x0)), (1, .ref (G.2.2 + x1)), (2, .int x2), (3, .int x3)]) hx hb d_Checker_follow_5 hl (by decide) rfl (fun ls hl => ?_)
  refine lv_iload_n hx hb d_Checker_follow_7 rfl (lv_at hl 4 rfl) ?_
  refine lv_iconst (v := 5) hx hb d_Checker_follow_8 ic_5 ?_
  refine lv_icmp_gt (tgt := 22) hx hb d_Checker_follow_9 (by decide) (fun c131 => ?_) (fun c131 => ?_)
  · rw [if_pos c131] at h
    cases h
    exact r_vret C0 hP hS d_Checker_follow_22
  · rw [if_neg c131] at h
    refine lv_iload_n hx hb d_Checker_follow_12 rfl (lv_at hl 4 rfl) ?_
    refine k_tks C0 hS (Or.inr ⟨"AllocationProfiler", (nW_in 554 (by decide +kernel) rfl)⟩) d_Checker_follow_13 (fun t132 ht132 => ?_)
    refine lv_iload hx hb d_Checker_follow_16 (lv_at hl 0 rfl) ?_
    obtain ⟨x133, e134, h⟩ := ob h
    refine k_tk C0 hS ht132 e134 d_Checker_follow_18 ?_
    refine lv_icmp_ge (tgt := 23) hx hb d_Checker_follow_19 (by decide) (fun c135 => ?_) (fun c135 => ?_)
    · rw [if_pos c135] at h
      refine lv_iload_n hx hb d_Checker_follow_23 rfl (lv_at hl 4 rfl) ?_
      refine k_tks C0 hS (Or.inr ⟨"AllocationProfiler", (nW_in 554 (by decide +kernel) rfl)⟩) d_Checker_follow_24 (fun t136 ht136 => ?_)
      refine lv_iload hx hb d_Checker_follow_27 (lv_at hl 0 rfl) ?_
      obtain ⟨x137, e138, h⟩ := ob h
      refine k_tk C0 hS ht136 e138 d_Checker_follow_29 ?_
      refine lv_isub hx hb d_Checker_follow_30 ?_
      refine k_pts C0 hS (Or.inr ⟨"AllocationProfiler", (nW_in 556 (by decide +kernel) rfl)⟩) d_Checker_follow_31 (fun t139 ht139 => ?_)
      refine lv_iload hx hb d_Checker_follow_34 (lv_at hl 0 rfl) ?_
      obtain ⟨x140, e141, h⟩ := ob h
      refine k_pt C0 hS ht139 e141 d_Checker_follow_36 ?_
      refine lv_iadd hx hb d_Checker_follow_37 ?_
      refine lv_istore (lv' := [(5, .int ((x3 - x137) + x140)), (4, .int x130), (0, .ref (G.2.2 + x0)), (1, .ref (G.2.2 + x1)), (2, .int x2), (3, .int x3)]) hx hb d_Checker_follow_38 hl (by decide) rfl (fun ls hl => ?_)
      refine lv_iload hx hb d_Checker_follow_40 (lv_at hl 1 rfl) ?_
      obtain ⟨x144, M142, e143, h⟩ := ob2 h
      refine k_cSN C0 L_Checker_68 (As := [.int x130]) (c_AP_closes l G x130 e143) ⟨rfl, rfl⟩ ⟨Nat.le_of_ble_eq_true rfl, Nat.le_of_ble_eq_true rfl⟩ hP hS rfl hl.1 rfl (Nat.le_of_ble_eq_true rfl) d_Checker_follow_42 ⟨Nat.zero_le _, Nat.zero_le _⟩ (fun H locs hP hS => ?_)
      refine lv_if_ne (tgt := 57) hx hb d_Checker_follow_45 (by decide) (fun c145 => ?_) (fun c145 => ?_)
      · rw [if_neg c145] at h
        exact w_Checker_follow_57 C0 x0 x1 x2 x130 ((x3 - x137) + x140) hP hS (lv_sub hl [2, 3, 4, 1, 0] rfl) h
      · rw [if_pos c145] at h
        refine lv_aload_n hx hb d_Checker_follow_48 rfl (lv_at hl 2 rfl) ?_
        refine lv_iload_n hx hb d_Checker_follow_49 rfl (lv_at hl 4 rfl) ?_
        refine lv_iconst (v := 1) hx hb d_Checker_follow_50 ic_1 ?_
        refine lv_iadd hx hb d_Checker_follow_51 ?_
        refine lv_iload hx hb d_Checker_follow_52 (lv_at hl 0 rfl) ?_
        obtain ⟨_, e146, h⟩ := ob h
        obtain ⟨M147, e148, h⟩ := ob h
        refine k_cVv C0 L_Checker_89 (As := [.int (x2 + 1), .int ((x3 - x137) + x140)]) (c_Checker_reach l G x0 (x2 + 1) ((x3 - x137) + x140) e148) ⟨rfl, rfl⟩ ⟨Nat.le_of_ble_eq_true rfl, Nat.le_of_ble_eq_true rfl⟩ hP hS (ck_of e146) ly_Checker rfl hl.1 rfl (Nat.le_of_ble_eq_true rfl) d_Checker_follow_54 ⟨Nat.zero_le _, Nat.zero_le _⟩ (fun H locs hP hS => ?_)
        exact w_Checker_follow_57 C0 x0 x1 x2 x130 ((x3 - x137) + x140) hP hS (lv_sub hl [2, 3, 4, 1, 0] rfl) h
    · rw [if_neg c135] at h
      cases h
      exact r_vret C0 hP hS d_Checker_follow_22
/-! AllocationProfiler$Checker.isReachedWrongly -/
def rm_Checker_isReachedWrongly : Room := { frames := 1, cells := 0, slots := 0, locals := 20 }
theorem d_Checker_isReachedWrongly_0 : decode b_Checker_isReachedWrongly 0 = .ok (.iload_n 1, 1) := by decide +kernel
theorem d_Checker_isReachedWrongly_1 : decode b_Checker_isReachedWrongly 1 = .ok (.iconst 1, 1) := by decide +kernel
theorem d_Checker_isReachedWrongly_2 : decode b_Checker_isReachedWrongly 2 = .ok (.getstatic 101, 3) := by decide +kernel
theorem d_Checker_isReachedWrongly_5 : decode b_Checker_isReachedWrongly 5 = .ok (.iload_n 0, 1) := by decide +kernel
theorem d_Checker_isReachedWrongly_6 : decode b_Checker_isReachedWrongly 6 = .ok (.iaload, 1) := by decide +kernel
theorem d_Checker_isReachedWrongly_7 : decode b_Checker_isReachedWrongly 7 = .ok (.ishl, 1) := by decide +kernel
theorem d_Checker_isReachedWrongly_8 : decode b_Checker_isReachedWrongly 8 = .ok (.iconst 1, 1) := by decide +kernel
theorem d_Checker_isReachedWrongly_9 : decode b_Checker_isReachedWrongly 9 = .ok (.isub, 1) := by decide +kernel
theorem d_Checker_isReachedWrongly_10 : decode b_Checker_isReachedWrongly 10 = .ok (.iand, 1) := by decide +kernel
theorem d_Checker_isReachedWrongly_11 : decode b_Checker_isReachedWrongly 11 = .ok (.ifCond .eq 7, 3) := by decide +kernel
theorem d_Checker_isReachedWrongly_14 : decode b_Checker_isReachedWrongly 14 = .ok (.iconst 1, 1) := by decide +kernel
theorem d_Checker_isReachedWrongly_15 : decode b_Checker_isReachedWrongly 15 = .ok (.goto 4, 3) := by decide +kernel
theorem d_Checker_isReachedWrongly_18 : decode b_Checker_isReachedWrongly 18 = .ok (.iconst 0, 1) := by decide +kernel
theorem d_Checker_isReachedWrongly_19 : decode b_Checker_isReachedWrongly 19 = .ok (.istore_n 2, 1) := by decide +kernel
theorem d_Checker_isReachedWrongly_20 : decode b_Checker_isReachedWrongly 20 = .ok (.iload_n 1, 1) := by decide +kernel
theorem d_Checker_isReachedWrongly_21 : decode b_Checker_isReachedWrongly 21 = .ok (.bipush 6, 2) := by decide +kernel
theorem d_Checker_isReachedWrongly_23 : decode b_Checker_isReachedWrongly 23 = .ok (.ishr, 1) := by decide +kernel
theorem d_Checker_isReachedWrongly_24 : decode b_Checker_isReachedWrongly 24 = .ok (.ifCond .eq 7, 3) := by decide +kernel
theorem d_Checker_isReachedWrongly_27 : decode b_Checker_isReachedWrongly 27 = .ok (.iconst 1, 1) := by decide +kernel
theorem d_Checker_isReachedWrongly_28 : decode b_Checker_isReachedWrongly 28 = .ok (.goto 4, 3) := by decide +kernel
theorem d_Checker_isReachedWrongly_31 : decode b_Checker_isReachedWrongly 31 = .ok (.iconst 0, 1) := by decide +kernel
theorem d_Checker_isReachedWrongly_32 : decode b_Checker_isReachedWrongly 32 = .ok (.istore_n 3, 1) := by decide +kernel
theorem d_Checker_isReachedWrongly_33 : decode b_Checker_isReachedWrongly 33 = .ok (.iload_n 2, 1) := by decide +kernel
theorem d_Checker_isReachedWrongly_34 : decode b_Checker_isReachedWrongly 34 = .ok (.ifCond .ne 15, 3) := by decide +kernel
theorem d_Checker_isReachedWrongly_37 : decode b_Checker_isReachedWrongly 37 = .ok (.iload_n 3, 1) := by decide +kernel
theorem d_Checker_isReachedWrongly_38 : decode b_Checker_isReachedWrongly 38 = .ok (.ifCond .ne 11, 3) := by decide +kernel
theorem d_Checker_isReachedWrongly_41 : decode b_Checker_isReachedWrongly 41 = .ok (.iload_n 1, 1) := by decide +kernel
theorem d_Checker_isReachedWrongly_42 : decode b_Checker_isReachedWrongly 42 = .ok (.invokestatic 110, 3) := by decide +kernel
theorem d_Checker_isReachedWrongly_45 : decode b_Checker_isReachedWrongly 45 = .ok (.iconst 1, 1) := by decide +kernel
theorem d_Checker_isReachedWrongly_46 : decode b_Checker_isReachedWrongly 46 = .ok (.if_icmp .le 7, 3) := by decide +kernel
theorem d_Checker_isReachedWrongly_49 : decode b_Checker_isReachedWrongly 49 = .ok (.iconst 1, 1) := by decide +kernel
theorem d_Checker_isReachedWrongly_50 : decode b_Checker_isReachedWrongly 50 = .ok (.goto 4, 3) := by decide +kernel
theorem d_Checker_isReachedWrongly_53 : decode b_Checker_isReachedWrongly 53 = .ok (.iconst 0, 1) := by decide +kernel
theorem d_Checker_isReachedWrongly_54 : decode b_Checker_isReachedWrongly 54 = .ok (.ireturn, 1) := by decide +kernel
def j_Checker_isReachedWrongly_49  (M : fm_M) : Option (Int32 × fm_M) :=
  some (1, M)
def j_Checker_isReachedWrongly_32 (x1 : Int32) (x2 : Int32) (s0 : Int32) (M : fm_M) : Option (Int32 × fm_M) :=
  if x2 = 0 then
    if s0 = 0 then
      bd (f_Integer_bitCount x1 M) fun x105 M103 =>
      if x105 ≤ 1 then
        some (0, M103)
      else
        j_Checker_isReachedWrongly_49 M103
    else
      j_Checker_isReachedWrongly_49 M
  else
    j_Checker_isReachedWrongly_49 M
def j_Checker_isReachedWrongly_19 (x1 : Int32) (s0 : Int32) (M : fm_M) : Option (Int32 × fm_M) :=
  if (x1 >>> (6 &&& 31)) = 0 then
    j_Checker_isReachedWrongly_32 x1 s0 0 M
  else
    j_Checker_isReachedWrongly_32 x1 s0 1 M
def f_Checker_isReachedWrongly (x0 : Int32) (x1 : Int32) (M : fm_M) : Option (Int32 × fm_M) :=
  (tk x0).bind fun x109 =>
  if (x1 &&& ((1 <<< (x109 &&& 31)) - 1)) = 0 then
    j_Checker_isReachedWrongly_19 x1 0 M
  else
    j_Checker_isReachedWrongly_19 x1 1 M
set_option maxHeartbeats 4000000 in
set_option maxRecDepth 100000 in
theorem w_Checker_isReachedWrongly_49 {p : Program} {l : Launch} {e : Env} {s : State} {m : MethodId} {args : Array Value} {below : List Frame} {meth : Method} {c : Code} {G : fm_G} (C0 : fm_C p s m args meth c G (.code y_Checker_isReachedWrongly b_Checker_isReachedWrongly 4 (some .boolean)) "AllocationProfiler$Checker" b_Checker_isReachedWrongly 4 (some .boolean)) {v : Int32} {M' : fm_M}  {M : fm_M} {H : Heap} {locs : List Loc} (hP : kP G M H) (hS : kS G s H locs) {ls : Array Slot} (hl : lv_has ls 4 []) (h : j_Checker_isReachedWrongly_49  M = some (v, M')) : W p l e rm_Checker_isReachedWrongly s m args below meth c H locs 0 0 (MQ below (fm_Q G 212 shF (some (.int v)) M') args s 0 0 (fm_A G.2.2)) (F0 m 49 ls []) := by
  have hx := C0.1
  have hb := C0.2.1
  unfold j_Checker_isReachedWrongly_49 at h
  refine lv_iconst (v := 1) hx hb d_Checker_isReachedWrongly_49 ic_1 ?_
  refine lv_goto (tgt := 54) hx hb d_Checker_isReachedWrongly_50 (by decide) ?_
  cases h
  exact r_zret C0 hP hS (Or.inr rfl) d_Checker_isReachedWrongly_54
set_option maxHeartbeats 4000000 in
set_option maxRecDepth 100000 in
theorem w_Checker_isReachedWrongly_32 {p : Program} {l : Launch} {e : Env} {s : State} {m : MethodId} {args : Array Value} {below : List Frame} {meth : Method} {c : Code} {G : fm_G} (C0 : fm_C p s m args meth c G (.code y_Checker_isReachedWrongly b_Checker_isReachedWrongly 4 (some .boolean)) "AllocationProfiler$Checker" b_Checker_isReachedWrongly 4 (some .boolean)) {v : Int32} {M' : fm_M} (x1 : Int32) (x2 : Int32) (s0 : Int32) {M : fm_M} {H : Heap} {locs : List Loc} (hP : kP G M H) (hS : kS G s H locs) {ls : Array Slot} (hl : lv_has ls 4 [(1, .int x1), (2, .int x2)]) (h : j_Checker_isReachedWrongly_32 x1 x2 s0 M = some (v, M')) : W p l e rm_Checker_isReachedWrongly s m args below meth c H locs 0 0 (MQ below (fm_Q G 212 shF (some (.int v)) M') args s 0 0 (fm_A G.2.2)) (F0 m 32 ls [.int s0]) := by
  have hx := C0.1
  have hb := C0.2.1
  unfold j_Checker_isReachedWrongly_32 at h
  refine lv_istore_n (lv' := [(3, .int s0), (1, .int x1), (2, .int x2)]) hx hb d_Checker_isReachedWrongly_32 rfl hl (by decide) rfl (fun ls hl => ?_)
  refine lv_iload_n hx hb d_Checker_isReachedWrongly_33 rfl (lv_at hl 2 rfl) ?_
  refine lv_if_ne (tgt := 49) hx hb d_Checker_isReachedWrongly_34 (by decide) (fun c101 => ?_) (fun c101 => ?_)
  · rw [if_neg c101] at h
    exact w_Checker_isReachedWrongly_49 C0 hP hS (lv_sub hl [] rfl) h
  · rw [if_pos c101] at h
    refine lv_iload_n hx hb d_Checker_isReachedWrongly_37 rfl (lv_at hl 0 rfl) ?_
    refine lv_if_ne (tgt := 49) hx hb d_Checker_isReachedWrongly_38 (by decide) (fun c102 => ?_) (fun c102 => ?_)
    · rw [if_neg c102] at h
      exact w_Checker_isReachedWrongly_49 C0 hP hS (lv_sub hl [] rfl) h
    · rw [if_pos c102] at h
      refine lv_iload_n hx hb d_Checker_isReachedWrongly_41 rfl (lv_at hl 1 rfl) ?_
      obtain ⟨x105, M103, e104, h⟩ := ob2 h
      refine k_cS C0 L_Checker_110 (As := [.int x1]) (c_Integer_bitCount l G x1 e104) ⟨rfl, rfl⟩ ⟨Nat.le_of_ble_eq_true rfl, Nat.le_of_ble_eq_true rfl⟩ hP hS rfl hl.1 rfl (Nat.le_of_ble_eq_true rfl) d_Checker_isReachedWrongly_42 ⟨Nat.zero_le _, Nat.zero_le _⟩ (fun H locs hP hS => ?_)
      refine lv_iconst (v := 1) hx hb d_Checker_isReachedWrongly_45 ic_1 ?_
      refine lv_icmp_le (tgt := 53) hx hb d_Checker_isReachedWrongly_46 (by decide) (fun c106 => ?_) (fun c106 => ?_)
      · rw [if_pos c106] at h
        refine lv_iconst (v := 0) hx hb d_Checker_isReachedWrongly_53 ic_0 ?_
        cases h
        exact r_zret C0 hP hS (Or.inl rfl) d_Checker_isReachedWrongly_54
      · rw [if_neg c106] at h
        exact w_Checker_isReachedWrongly_49 C0 hP hS (lv_sub hl [] rfl) h
set_option maxHeartbeats 4000000 in
set_option maxRecDepth 100000 in
theorem w_Checker_isReachedWrongly_19 {p : Program} {l : Launch} {e : Env} {s : State} {m : MethodId} {args : Array Value} {below : List Frame} {meth : Method} {c : Code} {G : fm_G} (C0 : fm_C p s m args meth c G (.code y_Checker_isReachedWrongly b_Checker_isReachedWrongly 4 (some .boolean)) "AllocationProfiler$Checker" b_Checker_isReachedWrongly 4 (some .boolean)) {v : Int32} {M' : fm_M} (x1 : Int32) (s0 : Int32) {M : fm_M} {H : Heap} {locs : List Loc} (hP : kP G M H) (hS : kS G s H locs) {ls : Array Slot} (hl : lv_has ls 4 [(1, .int x1)]) (h : j_Checker_isReachedWrongly_19 x1 s0 M = some (v, M')) : W p l e rm_Checker_isReachedWrongly s m args below meth c H locs 0 0 (MQ below (fm_Q G 212 shF (some (.int v)) M') args s 0 0 (fm_A G.2.2)) (F0 m 19 ls [.int s0]) := by
  have hx := C0.1
  have hb := C0.2.1
  unfold j_Checker_isReachedWrongly_19 at h
  refine lv_istore_n (lv' := [(2, .int s0), (1, .int x1)]) hx hb d_Checker_isReachedWrongly_19 rfl hl (by decide) rfl (fun ls hl => ?_)
  refine lv_iload_n hx hb d_Checker_isReachedWrongly_20 rfl (lv_at hl 1 rfl) ?_
  refine lv_bipush (v := 6) hx hb d_Checker_isReachedWrongly_21 bp_6 ?_
  refine lv_ishr hx hb d_Checker_isReachedWrongly_23 ?_
  refine lv_if_eq (tgt := 31) hx hb d_Checker_isReachedWrongly_24 (by decide) (fun c107 => ?_) (fun c107 => ?_)
  · rw [if_pos c107] at h
    refine lv_iconst (v := 0) hx hb d_Checker_isReachedWrongly_31 ic_0 ?_
    exact w_Checker_isReachedWrongly_32 C0 x1 s0 0 hP hS (lv_sub hl [1, 0] rfl) h
  · rw [if_neg c107] at h
    refine lv_iconst (v := 1) hx hb d_Checker_isReachedWrongly_27 ic_1 ?_
    refine lv_goto (tgt := 32) hx hb d_Checker_isReachedWrongly_28 (by decide) ?_
    exact w_Checker_isReachedWrongly_32 C0 x1 s0 1 hP hS (lv_sub hl [1, 0] rfl) h
set_option maxHeartbeats 4000000 in
set_option maxRecDepth 100000 in
theorem c_Checker_isReachedWrongly (l : Launch) (G : fm_G) (x0 : Int32) (x1 : Int32) {v : Int32} {M M' : fm_M} (h : f_Checker_isReachedWrongly x0 x1 M = some (v, M')) : kMet l y_Checker_isReachedWrongly b_Checker_isReachedWrongly 4 (some .boolean) rm_Checker_isReachedWrongly G M [.int x0, .int x1] (some (.int v)) M' := by
  refine r_met (by decide) rfl (Nat.le_of_ble_eq_true rfl) (fun p e s m args below meth c C0 hP ls hl => ?_)
  have hx := C0.1
  have hb := C0.2.1
  have hl : lv_has ls 4 [(0, .int x0), (1, .int x1)] := hl
  have hS : va_S (fm_A G.2.2) s.heap s.heap [] := va_S.rf
  unfold f_Checker_isReachedWrongly at h
  refine lv_iload_n hx hb d_Checker_isReachedWrongly_0 rfl (lv_at hl 1 rfl) ?_
  refine lv_iconst (v := 1) hx hb d_Checker_isReachedWrongly_1 ic_1 ?_
  refine k_tks C0 hS (Or.inr ⟨"AllocationProfiler", (nW_in 554 (by decide +kernel) rfl)⟩) d_Checker_isReachedWrongly_2 (fun t108 ht108 => ?_)
  refine lv_iload_n hx hb d_Checker_isReachedWrongly_5 rfl (lv_at hl 0 rfl) ?_
  obtain ⟨x109, e110, h⟩ := ob h
  refine k_tk C0 hS ht108 e110 d_Checker_isReachedWrongly_6 ?_
  refine lv_ishl hx hb d_Checker_isReachedWrongly_7 ?_
  refine lv_iconst (v := 1) hx hb d_Checker_isReachedWrongly_8 ic_1 ?_
  refine lv_isub hx hb d_Checker_isReachedWrongly_9 ?_
  refine lv_iand hx hb d_Checker_isReachedWrongly_10 ?_
  refine lv_if_eq (tgt := 18) hx hb d_Checker_isReachedWrongly_11 (by decide) (fun c111 => ?_) (fun c111 => ?_)
  · rw [if_pos c111] at h
    refine lv_iconst (v := 0) hx hb d_Checker_isReachedWrongly_18 ic_0 ?_
    exact w_Checker_isReachedWrongly_19 C0 x1 0 hP hS (lv_sub hl [1] rfl) h
  · rw [if_neg c111] at h
    refine lv_iconst (v := 1) hx hb d_Checker_isReachedWrongly_14 ic_1 ?_
    refine lv_goto (tgt := 19) hx hb d_Checker_isReachedWrongly_15 (by decide) ?_
    exact w_Checker_isReachedWrongly_19 C0 x1 1 hP hS (lv_sub hl [1] rfl) h
/-! AllocationProfiler$Checker.wrongDepth -/
def rm_Checker_wrongDepth : Room := { frames := 3, cells := 0, slots := 0, locals := 68 }
theorem d_Checker_wrongDepth_0 : decode b_Checker_wrongDepth 0 = .ok (.aload_n 0, 1) := by decide +kernel
theorem d_Checker_wrongDepth_1 : decode b_Checker_wrongDepth 1 = .ok (.getfield 9, 3) := by decide +kernel
theorem d_Checker_wrongDepth_4 : decode b_Checker_wrongDepth 4 = .ok (.iconst 0, 1) := by decide +kernel
theorem d_Checker_wrongDepth_5 : decode b_Checker_wrongDepth 5 = .ok (.invokestatic 83, 3) := by decide +kernel
theorem d_Checker_wrongDepth_8 : decode b_Checker_wrongDepth 8 = .ok (.aload_n 0, 1) := by decide +kernel
theorem d_Checker_wrongDepth_9 : decode b_Checker_wrongDepth 9 = .ok (.iconst 0, 1) := by decide +kernel
theorem d_Checker_wrongDepth_10 : decode b_Checker_wrongDepth 10 = .ok (.putfield 18, 3) := by decide +kernel
theorem d_Checker_wrongDepth_13 : decode b_Checker_wrongDepth 13 = .ok (.aload_n 0, 1) := by decide +kernel
theorem d_Checker_wrongDepth_14 : decode b_Checker_wrongDepth 14 = .ok (.iconst 0, 1) := by decide +kernel
theorem d_Checker_wrongDepth_15 : decode b_Checker_wrongDepth 15 = .ok (.iconst 0, 1) := by decide +kernel
theorem d_Checker_wrongDepth_16 : decode b_Checker_wrongDepth 16 = .ok (.invokevirtual 89, 3) := by decide +kernel
theorem d_Checker_wrongDepth_19 : decode b_Checker_wrongDepth 19 = .ok (.iconst 0, 1) := by decide +kernel
theorem d_Checker_wrongDepth_20 : decode b_Checker_wrongDepth 20 = .ok (.istore_n 2, 1) := by decide +kernel
theorem d_Checker_wrongDepth_21 : decode b_Checker_wrongDepth 21 = .ok (.iload_n 2, 1) := by decide +kernel
theorem d_Checker_wrongDepth_22 : decode b_Checker_wrongDepth 22 = .ok (.aload_n 0, 1) := by decide +kernel
theorem d_Checker_wrongDepth_23 : decode b_Checker_wrongDepth 23 = .ok (.getfield 15, 3) := by decide +kernel
theorem d_Checker_wrongDepth_26 : decode b_Checker_wrongDepth 26 = .ok (.arraylength, 1) := by decide +kernel
theorem d_Checker_wrongDepth_27 : decode b_Checker_wrongDepth 27 = .ok (.if_icmp .ge 40, 3) := by decide +kernel
theorem d_Checker_wrongDepth_30 : decode b_Checker_wrongDepth 30 = .ok (.iload_n 2, 1) := by decide +kernel
theorem d_Checker_wrongDepth_31 : decode b_Checker_wrongDepth 31 = .ok (.aload_n 0, 1) := by decide +kernel
theorem d_Checker_wrongDepth_32 : decode b_Checker_wrongDepth 32 = .ok (.getfield 18, 3) := by decide +kernel
theorem d_Checker_wrongDepth_35 : decode b_Checker_wrongDepth 35 = .ok (.if_icmp .ge 32, 3) := by decide +kernel
theorem d_Checker_wrongDepth_38 : decode b_Checker_wrongDepth 38 = .ok (.aload_n 0, 1) := by decide +kernel
theorem d_Checker_wrongDepth_39 : decode b_Checker_wrongDepth 39 = .ok (.aload_n 1, 1) := by decide +kernel
theorem d_Checker_wrongDepth_40 : decode b_Checker_wrongDepth 40 = .ok (.aload_n 0, 1) := by decide +kernel
theorem d_Checker_wrongDepth_41 : decode b_Checker_wrongDepth 41 = .ok (.getfield 15, 3) := by decide +kernel
theorem d_Checker_wrongDepth_44 : decode b_Checker_wrongDepth 44 = .ok (.iload_n 2, 1) := by decide +kernel
theorem d_Checker_wrongDepth_45 : decode b_Checker_wrongDepth 45 = .ok (.iaload, 1) := by decide +kernel
theorem d_Checker_wrongDepth_46 : decode b_Checker_wrongDepth 46 = .ok (.bipush 7, 2) := by decide +kernel
theorem d_Checker_wrongDepth_48 : decode b_Checker_wrongDepth 48 = .ok (.idiv, 1) := by decide +kernel
theorem d_Checker_wrongDepth_49 : decode b_Checker_wrongDepth 49 = .ok (.aload_n 0, 1) := by decide +kernel
theorem d_Checker_wrongDepth_50 : decode b_Checker_wrongDepth 50 = .ok (.getfield 15, 3) := by decide +kernel
theorem d_Checker_wrongDepth_53 : decode b_Checker_wrongDepth 53 = .ok (.iload_n 2, 1) := by decide +kernel
theorem d_Checker_wrongDepth_54 : decode b_Checker_wrongDepth 54 = .ok (.iaload, 1) := by decide +kernel
theorem d_Checker_wrongDepth_55 : decode b_Checker_wrongDepth 55 = .ok (.bipush 7, 2) := by decide +kernel
theorem d_Checker_wrongDepth_57 : decode b_Checker_wrongDepth 57 = .ok (.irem, 1) := by decide +kernel
theorem d_Checker_wrongDepth_58 : decode b_Checker_wrongDepth 58 = .ok (.invokevirtual 93, 3) := by decide +kernel
theorem d_Checker_wrongDepth_61 : decode b_Checker_wrongDepth 61 = .ok (.iinc 2 1, 3) := by decide +kernel
theorem d_Checker_wrongDepth_64 : decode b_Checker_wrongDepth 64 = .ok (.goto (-43), 3) := by decide +kernel
theorem d_Checker_wrongDepth_67 : decode b_Checker_wrongDepth 67 = .ok (.iconst 0, 1) := by decide +kernel
theorem d_Checker_wrongDepth_68 : decode b_Checker_wrongDepth 68 = .ok (.istore_n 2, 1) := by decide +kernel
theorem d_Checker_wrongDepth_69 : decode b_Checker_wrongDepth 69 = .ok (.iload_n 2, 1) := by decide +kernel
theorem d_Checker_wrongDepth_70 : decode b_Checker_wrongDepth 70 = .ok (.aload_n 1, 1) := by decide +kernel
theorem d_Checker_wrongDepth_71 : decode b_Checker_wrongDepth 71 = .ok (.getfield 36, 3) := by decide +kernel
theorem d_Checker_wrongDepth_74 : decode b_Checker_wrongDepth 74 = .ok (.if_icmp .ge 28, 3) := by decide +kernel
theorem d_Checker_wrongDepth_77 : decode b_Checker_wrongDepth 77 = .ok (.aload_n 1, 1) := by decide +kernel
theorem d_Checker_wrongDepth_78 : decode b_Checker_wrongDepth 78 = .ok (.iload_n 2, 1) := by decide +kernel
theorem d_Checker_wrongDepth_79 : decode b_Checker_wrongDepth 79 = .ok (.invokevirtual 45, 3) := by decide +kernel
theorem d_Checker_wrongDepth_82 : decode b_Checker_wrongDepth 82 = .ok (.aload_n 0, 1) := by decide +kernel
theorem d_Checker_wrongDepth_83 : decode b_Checker_wrongDepth 83 = .ok (.getfield 9, 3) := by decide +kernel
theorem d_Checker_wrongDepth_86 : decode b_Checker_wrongDepth 86 = .ok (.iload_n 2, 1) := by decide +kernel
theorem d_Checker_wrongDepth_87 : decode b_Checker_wrongDepth 87 = .ok (.iaload, 1) := by decide +kernel
theorem d_Checker_wrongDepth_88 : decode b_Checker_wrongDepth 88 = .ok (.invokestatic 97, 3) := by decide +kernel
theorem d_Checker_wrongDepth_91 : decode b_Checker_wrongDepth 91 = .ok (.ifCond .eq 5, 3) := by decide +kernel
theorem d_Checker_wrongDepth_94 : decode b_Checker_wrongDepth 94 = .ok (.iload_n 2, 1) := by decide +kernel
theorem d_Checker_wrongDepth_95 : decode b_Checker_wrongDepth 95 = .ok (.ireturn, 1) := by decide +kernel
theorem d_Checker_wrongDepth_96 : decode b_Checker_wrongDepth 96 = .ok (.iinc 2 1, 3) := by decide +kernel
theorem d_Checker_wrongDepth_99 : decode b_Checker_wrongDepth 99 = .ok (.goto (-30), 3) := by decide +kernel
theorem d_Checker_wrongDepth_102 : decode b_Checker_wrongDepth 102 = .ok (.iconst (-1), 1) := by decide +kernel
theorem d_Checker_wrongDepth_103 : decode b_Checker_wrongDepth 103 = .ok (.ireturn, 1) := by decide +kernel
def h_Checker_wrongDepth_69 : Nat → Nat → Nat → Int32 → fm_M → Option (Int32 × fm_M)
  | 0, _, _, _, _ => none
  | n + 1, x0, x1, x2, M =>
    (gi x1 1 5 M).bind fun x101 =>
    if x101 ≤ x2 then
      some ((-1), M)
    else
      (ck x1 1).bind fun _ =>
      bd (f_Code_operationAt x1 x2 M) fun x107 M105 =>
      (gr x0 0 0).bind fun q108 =>
      (ai q108 x2 M105).bind fun x110 =>
      bd (f_Checker_isReachedWrongly x107 x110 M105) fun x114 M112 =>
      if x114 = 0 then
        h_Checker_wrongDepth_69 n x0 x1 (x2 + 1) M112
      else
        some (x2, M112)
def j_Checker_wrongDepth_67 (x0 : Nat) (x1 : Nat) (M : fm_M) : Option (Int32 × fm_M) :=
  h_Checker_wrongDepth_69 100000 x0 x1 0 M
def h_Checker_wrongDepth_21 : Nat → Nat → Nat → Int32 → fm_M → Option (Int32 × fm_M)
  | 0, _, _, _, _ => none
  | n + 1, x0, x1, x2, M =>
    (gr x0 0 1).bind fun q116 =>
    (ln q116).bind fun x118 =>
    if x118 ≤ x2 then
      j_Checker_wrongDepth_67 x0 x1 M
    else
      (gi x0 0 2 M).bind fun x121 =>
      if x121 ≤ x2 then
        j_Checker_wrongDepth_67 x0 x1 M
      else
        (gr x0 0 1).bind fun q124 =>
        (ai q124 x2 M).bind fun x126 =>
        (gr x0 0 1).bind fun q128 =>
        (ai q128 x2 M).bind fun x130 =>
        (ck x0 0).bind fun _ =>
        (f_Checker_follow x0 x1 (x126 / 7) (x130 - x130 / 7 * 7) M).bind fun M133 =>
        h_Checker_wrongDepth_21 n x0 x1 (x2 + 1) M133
def f_Checker_wrongDepth (x0 : Nat) (x1 : Nat) (M : fm_M) : Option (Int32 × fm_M) :=
  (gr x0 0 0).bind fun q135 =>
  (f_Arrays_fill q135 0 M).bind fun M137 =>
  (pi x0 0 2 0 M137).bind fun M139 =>
  (ck x0 0).bind fun _ =>
  (f_Checker_reach x0 0 0 M139).bind fun M142 =>
  h_Checker_wrongDepth_21 100000 x0 x1 0 M142
set_option maxHeartbeats 4000000 in
set_option maxRecDepth 100000 in
theorem w_Checker_wrongDepth_69 {p : Program} {l : Launch} {e : Env} {s : State} {m : MethodId} {args : Array Value} {below : List Frame} {meth : Method} {c : Code} {G : fm_G} (C0 : fm_C p s m args meth c G (.code y_Checker_wrongDepth b_Checker_wrongDepth 3 (some .int)) "AllocationProfiler$Checker" b_Checker_wrongDepth 3 (some .int)) {v : Int32} {M' : fm_M} : ∀ (n : Nat) (x0 : Nat) (x1 : Nat) (x2 : Int32) {M : fm_M} {H : Heap} {locs : List Loc}, kP G M H → kS G s H locs → ∀ {ls : Array Slot}, lv_has ls 3 [(0, .ref (G.2.2 + x0)), (1, .ref (G.2.2 + x1)), (2, .int x2)] → h_Checker_wrongDepth_69 n x0 x1 x2 M = some (v, M') → W p l e rm_Checker_wrongDepth s m args below meth c H locs 0 0 (MQ below (fm_Q G 212 shF (some (.int v)) M') args s 0 0 (fm_A G.2.2)) (F0 m 69 ls []) := by
  have hx := C0.1
  have hb := C0.2.1
  intro n
  induction n with
  | zero =>
    intro x0 x1 x2 M H locs hP hS ls hl h
    exact nomatch h
  | succ n ih =>
    intro x0 x1 x2 M H locs hP hS ls hl h
    have h : ((gi x1 1 5 M).bind fun x101 =>
      if x101 ≤ x2 then
        some ((-1), M)
      else
        (ck x1 1).bind fun _ =>
        bd (f_Code_operationAt x1 x2 M) fun x107 M105 =>
        (gr x0 0 0).bind fun q108 =>
        (ai q108 x2 M105).bind fun x110 =>
        bd (f_Checker_isReachedWrongly x107 x110 M105) fun x114 M112 =>
        if x114 = 0 then
          h_Checker_wrongDepth_69 n x0 x1 (x2 + 1) M112
        else
          some (x2, M112)) = some (v, M') := h
    refine lv_iload_n hx hb d_Checker_wrongDepth_69 rfl (lv_at hl 2 rfl) ?_
    refine lv_aload_n hx hb d_Checker_wrongDepth_70 rfl (lv_at hl 1 rfl) ?_
    obtain ⟨x101, e102, h⟩ := ob h
    refine k_gi C0 F_Checker_36 ik_1_5 hP e102 d_Checker_wrongDepth_71 ?_
    refine lv_icmp_ge (tgt := 102) hx hb d_Checker_wrongDepth_74 (by decide) (fun c103 => ?_) (fun c103 => ?_)
    · rw [if_pos c103] at h
      refine lv_iconst (v := (-1)) hx hb d_Checker_wrongDepth_102 ic_m1 ?_
      cases h
      exact r_iret C0 hP hS d_Checker_wrongDepth_103
    · rw [if_neg c103] at h
      refine lv_aload_n hx hb d_Checker_wrongDepth_77 rfl (lv_at hl 1 rfl) ?_
      refine lv_iload_n hx hb d_Checker_wrongDepth_78 rfl (lv_at hl 2 rfl) ?_
      obtain ⟨_, e104, h⟩ := ob h
      obtain ⟨x107, M105, e106, h⟩ := ob2 h
      refine k_cV C0 L_Checker_45 (As := [.int x2]) (c_Code_operationAt l G x1 x2 e106) ⟨rfl, rfl⟩ ⟨Nat.le_of_ble_eq_true rfl, Nat.le_of_ble_eq_true rfl⟩ hP hS (ck_of e104) ly_Code rfl hl.1 rfl (Nat.le_of_ble_eq_true rfl) d_Checker_wrongDepth_79 ⟨Nat.zero_le _, Nat.zero_le _⟩ (fun H locs hP hS => ?_)
      refine lv_aload_n hx hb d_Checker_wrongDepth_82 rfl (lv_at hl 0 rfl) ?_
      obtain ⟨q108, e109, h⟩ := ob h
      refine k_gr C0 F_Checker_9 hP e109 d_Checker_wrongDepth_83 ?_
      refine lv_iload_n hx hb d_Checker_wrongDepth_86 rfl (lv_at hl 2 rfl) ?_
      obtain ⟨x110, e111, h⟩ := ob h
      refine k_ai C0 hP e111 d_Checker_wrongDepth_87 ?_
      obtain ⟨x114, M112, e113, h⟩ := ob2 h
      refine k_cS C0 L_Checker_97 (As := [.int x107, .int x110]) (c_Checker_isReachedWrongly l G x107 x110 e113) ⟨rfl, rfl⟩ ⟨Nat.le_of_ble_eq_true rfl, Nat.le_of_ble_eq_true rfl⟩ hP hS rfl hl.1 rfl (Nat.le_of_ble_eq_true rfl) d_Checker_wrongDepth_88 ⟨Nat.zero_le _, Nat.zero_le _⟩ (fun H locs hP hS => ?_)
      refine lv_if_eq (tgt := 96) hx hb d_Checker_wrongDepth_91 (by decide) (fun c115 => ?_) (fun c115 => ?_)
      · rw [if_pos c115] at h
        refine lv_iinc (v := (x2 + 1)) (lv' := [(2, .int (x2 + 1)), (0, .ref (G.2.2 + x0)), (1, .ref (G.2.2 + x1))]) hx hb d_Checker_wrongDepth_96 hl (k := 2) rfl (congrArg (fun z => x2 + z) ic_1) (by decide) rfl (fun ls hl => ?_)
        refine lv_goto (tgt := 69) hx hb d_Checker_wrongDepth_99 (by decide) ?_
        exact ih x0 x1 (x2 + 1) hP hS (lv_sub hl [1, 2, 0] rfl) h
      · rw [if_neg c115] at h
        refine lv_iload_n hx hb d_Checker_wrongDepth_94 rfl (lv_at hl 2 rfl) ?_
        cases h
        exact r_iret C0 hP hS d_Checker_wrongDepth_95
set_option maxHeartbeats 4000000 in
set_option maxRecDepth 100000 in
theorem w_Checker_wrongDepth_67 {p : Program} {l : Launch} {e : Env} {s : State} {m : MethodId} {args : Array Value} {below : List Frame} {meth : Method} {c : Code} {G : fm_G} (C0 : fm_C p s m args meth c G (.code y_Checker_wrongDepth b_Checker_wrongDepth 3 (some .int)) "AllocationProfiler$Checker" b_Checker_wrongDepth 3 (some .int)) {v : Int32} {M' : fm_M} (x0 : Nat) (x1 : Nat) {M : fm_M} {H : Heap} {locs : List Loc} (hP : kP G M H) (hS : kS G s H locs) {ls : Array Slot} (hl : lv_has ls 3 [(0, .ref (G.2.2 + x0)), (1, .ref (G.2.2 + x1))]) (h : j_Checker_wrongDepth_67 x0 x1 M = some (v, M')) : W p l e rm_Checker_wrongDepth s m args below meth c H locs 0 0 (MQ below (fm_Q G 212 shF (some (.int v)) M') args s 0 0 (fm_A G.2.2)) (F0 m 67 ls []) := by
  have hx := C0.1
  have hb := C0.2.1
  unfold j_Checker_wrongDepth_67 at h
  refine lv_iconst (v := 0) hx hb d_Checker_wrongDepth_67 ic_0 ?_
  refine lv_istore_n (lv' := [(2, .int 0), (0, .ref (G.2.2 + x0)), (1, .ref (G.2.2 + x1))]) hx hb d_Checker_wrongDepth_68 rfl hl (by decide) rfl (fun ls hl => ?_)
  exact w_Checker_wrongDepth_69 C0 100000 x0 x1 0 hP hS (lv_sub hl [1, 2, 0] rfl) h
set_option maxHeartbeats 4000000 in
set_option maxRecDepth 100000 in
theorem w_Checker_wrongDepth_21 {p : Program} {l : Launch} {e : Env} {s : State} {m : MethodId} {args : Array Value} {below : List Frame} {meth : Method} {c : Code} {G : fm_G} (C0 : fm_C p s m args meth c G (.code y_Checker_wrongDepth b_Checker_wrongDepth 3 (some .int)) "AllocationProfiler$Checker" b_Checker_wrongDepth 3 (some .int)) {v : Int32} {M' : fm_M} : ∀ (n : Nat) (x0 : Nat) (x1 : Nat) (x2 : Int32) {M : fm_M} {H : Heap} {locs : List Loc}, kP G M H → kS G s H locs → ∀ {ls : Array Slot}, lv_has ls 3 [(0, .ref (G.2.2 + x0)), (1, .ref (G.2.2 + x1)), (2, .int x2)] → h_Checker_wrongDepth_21 n x0 x1 x2 M = some (v, M') → W p l e rm_Checker_wrongDepth s m args below meth c H locs 0 0 (MQ below (fm_Q G 212 shF (some (.int v)) M') args s 0 0 (fm_A G.2.2)) (F0 m 21 ls []) := by
  have hx := C0.1
  have hb := C0.2.1
  intro n
  induction n with
  | zero =>
    intro x0 x1 x2 M H locs hP hS ls hl h
    exact nomatch h
  | succ n ih =>
    intro x0 x1 x2 M H locs hP hS ls hl h
    have h : ((gr x0 0 1).bind fun q116 =>
      (ln q116).bind fun x118 =>
      if x118 ≤ x2 then
        j_Checker_wrongDepth_67 x0 x1 M
      else
        (gi x0 0 2 M).bind fun x121 =>
        if x121 ≤ x2 then
          j_Checker_wrongDepth_67 x0 x1 M
        else
          (gr x0 0 1).bind fun q124 =>
          (ai q124 x2 M).bind fun x126 =>
          (gr x0 0 1).bind fun q128 =>
          (ai q128 x2 M).bind fun x130 =>
          (ck x0 0).bind fun _ =>
          (f_Checker_follow x0 x1 (x126 / 7) (x130 - x130 / 7 * 7) M).bind fun M133 =>
          h_Checker_wrongDepth_21 n x0 x1 (x2 + 1) M133) = some (v, M') := h
    refine lv_iload_n hx hb d_Checker_wrongDepth_21 rfl (lv_at hl 2 rfl) ?_
    refine lv_aload_n hx hb d_Checker_wrongDepth_22 rfl (lv_at hl 0 rfl) ?_
    obtain ⟨q116, e117, h⟩ := ob h
    refine k_gr C0 F_Checker_15 hP e117 d_Checker_wrongDepth_23 ?_
    obtain ⟨x118, e119, h⟩ := ob h
    refine k_ln C0 hP e119 d_Checker_wrongDepth_26 ?_
    refine lv_icmp_ge (tgt := 67) hx hb d_Checker_wrongDepth_27 (by decide) (fun c120 => ?_) (fun c120 => ?_)
    · rw [if_pos c120] at h
      exact w_Checker_wrongDepth_67 C0 x0 x1 hP hS (lv_sub hl [0, 1] rfl) h
    · rw [if_neg c120] at h
      refine lv_iload_n hx hb d_Checker_wrongDepth_30 rfl (lv_at hl 2 rfl) ?_
      refine lv_aload_n hx hb d_Checker_wrongDepth_31 rfl (lv_at hl 0 rfl) ?_
      obtain ⟨x121, e122, h⟩ := ob h
      refine k_gi C0 F_Checker_18 ik_0_2 hP e122 d_Checker_wrongDepth_32 ?_
      refine lv_icmp_ge (tgt := 67) hx hb d_Checker_wrongDepth_35 (by decide) (fun c123 => ?_) (fun c123 => ?_)
      · rw [if_pos c123] at h
        exact w_Checker_wrongDepth_67 C0 x0 x1 hP hS (lv_sub hl [0, 1] rfl) h
      · rw [if_neg c123] at h
        refine lv_aload_n hx hb d_Checker_wrongDepth_38 rfl (lv_at hl 0 rfl) ?_
        refine lv_aload_n hx hb d_Checker_wrongDepth_39 rfl (lv_at hl 1 rfl) ?_
        refine lv_aload_n hx hb d_Checker_wrongDepth_40 rfl (lv_at hl 0 rfl) ?_
        obtain ⟨q124, e125, h⟩ := ob h
        refine k_gr C0 F_Checker_15 hP e125 d_Checker_wrongDepth_41 ?_
        refine lv_iload_n hx hb d_Checker_wrongDepth_44 rfl (lv_at hl 2 rfl) ?_
        obtain ⟨x126, e127, h⟩ := ob h
        refine k_ai C0 hP e127 d_Checker_wrongDepth_45 ?_
        refine lv_bipush (v := 7) hx hb d_Checker_wrongDepth_46 bp_7 ?_
        refine lv_idiv hx hb d_Checker_wrongDepth_48 (by decide) ?_
        refine lv_aload_n hx hb d_Checker_wrongDepth_49 rfl (lv_at hl 0 rfl) ?_
        obtain ⟨q128, e129, h⟩ := ob h
        refine k_gr C0 F_Checker_15 hP e129 d_Checker_wrongDepth_50 ?_
        refine lv_iload_n hx hb d_Checker_wrongDepth_53 rfl (lv_at hl 2 rfl) ?_
        obtain ⟨x130, e131, h⟩ := ob h
        refine k_ai C0 hP e131 d_Checker_wrongDepth_54 ?_
        refine lv_bipush (v := 7) hx hb d_Checker_wrongDepth_55 bp_7 ?_
        refine lv_irem hx hb d_Checker_wrongDepth_57 (by decide) ?_
        obtain ⟨_, e132, h⟩ := ob h
        obtain ⟨M133, e134, h⟩ := ob h
        refine k_cVv C0 L_Checker_93 (As := [.ref (G.2.2 + x1), .int (x126 / 7), .int (x130 - x130 / 7 * 7)]) (c_Checker_follow l G x0 x1 (x126 / 7) (x130 - x130 / 7 * 7) e134) ⟨rfl, rfl⟩ ⟨Nat.le_of_ble_eq_true rfl, Nat.le_of_ble_eq_true rfl⟩ hP hS (ck_of e132) ly_Checker rfl hl.1 rfl (Nat.le_of_ble_eq_true rfl) d_Checker_wrongDepth_58 ⟨Nat.zero_le _, Nat.zero_le _⟩ (fun H locs hP hS => ?_)
        refine lv_iinc (v := (x2 + 1)) (lv' := [(2, .int (x2 + 1)), (0, .ref (G.2.2 + x0)), (1, .ref (G.2.2 + x1))]) hx hb d_Checker_wrongDepth_61 hl (k := 2) rfl (congrArg (fun z => x2 + z) ic_1) (by decide) rfl (fun ls hl => ?_)
        refine lv_goto (tgt := 21) hx hb d_Checker_wrongDepth_64 (by decide) ?_
        exact ih x0 x1 (x2 + 1) hP hS (lv_sub hl [1, 2, 0] rfl) h
set_option maxHeartbeats 4000000 in
set_option maxRecDepth 100000 in
theorem c_Checker_wrongDepth (l : Launch) (G : fm_G) (x0 : Nat) (x1 : Nat) {v : Int32} {M M' : fm_M} (h : f_Checker_wrongDepth x0 x1 M = some (v, M')) : kMet l y_Checker_wrongDepth b_Checker_wrongDepth 3 (some .int) rm_Checker_wrongDepth G M [.ref (G.2.2 + x0), .ref (G.2.2 + x1)] (some (.int v)) M' := by
  refine r_met (by decide) rfl (Nat.le_of_ble_eq_true rfl) (fun p e s m args below meth c C0 hP ls hl => ?_)
  have hx := C0.1
  have hb := C0.2.1
  have hl : lv_has ls 3 [(0, .ref (G.2.2 + x0)), (1, .ref (G.2.2 + x1))] := hl
  have hS : va_S (fm_A G.2.2) s.heap s.heap [] := va_S.rf
  unfold f_Checker_wrongDepth at h
  refine lv_aload_n hx hb d_Checker_wrongDepth_0 rfl (lv_at hl 0 rfl) ?_
  obtain ⟨q135, e136, h⟩ := ob h
  refine k_gr C0 F_Checker_9 hP e136 d_Checker_wrongDepth_1 ?_
  refine lv_iconst (v := 0) hx hb d_Checker_wrongDepth_4 ic_0 ?_
  obtain ⟨M137, e138, h⟩ := ob h
  refine k_cSv C0 L_Checker_83 (As := [.ref (G.2.2 + q135), .int 0]) (c_Arrays_fill l G q135 0 e138) ⟨rfl, rfl⟩ ⟨Nat.le_of_ble_eq_true rfl, Nat.le_of_ble_eq_true rfl⟩ hP hS rfl hl.1 rfl (Nat.le_of_ble_eq_true rfl) d_Checker_wrongDepth_5 ⟨Nat.zero_le _, Nat.zero_le _⟩ (fun H locs hP hS => ?_)
  refine lv_aload_n hx hb d_Checker_wrongDepth_8 rfl (lv_at hl 0 rfl) ?_
  refine lv_iconst (v := 0) hx hb d_Checker_wrongDepth_9 ic_0 ?_
  obtain ⟨M139, e140, h⟩ := ob h
  refine k_pi C0 F_Checker_18p ik_0_2 hP hS e140 d_Checker_wrongDepth_10 (fun H locs hP hS => ?_)
  refine lv_aload_n hx hb d_Checker_wrongDepth_13 rfl (lv_at hl 0 rfl) ?_
  refine lv_iconst (v := 0) hx hb d_Checker_wrongDepth_14 ic_0 ?_
  refine lv_iconst (v := 0) hx hb d_Checker_wrongDepth_15 ic_0 ?_
  obtain ⟨_, e141, h⟩ := ob h
  obtain ⟨M142, e143, h⟩ := ob h
  refine k_cVv C0 L_Checker_89 (As := [.int 0, .int 0]) (c_Checker_reach l G x0 0 0 e143) ⟨rfl, rfl⟩ ⟨Nat.le_of_ble_eq_true rfl, Nat.le_of_ble_eq_true rfl⟩ hP hS (ck_of e141) ly_Checker rfl hl.1 rfl (Nat.le_of_ble_eq_true rfl) d_Checker_wrongDepth_16 ⟨Nat.zero_le _, Nat.zero_le _⟩ (fun H locs hP hS => ?_)
  refine lv_iconst (v := 0) hx hb d_Checker_wrongDepth_19 ic_0 ?_
  refine lv_istore_n (lv' := [(2, .int 0), (0, .ref (G.2.2 + x0)), (1, .ref (G.2.2 + x1))]) hx hb d_Checker_wrongDepth_20 rfl hl (by decide) rfl (fun ls hl => ?_)
  exact w_Checker_wrongDepth_21 C0 100000 x0 x1 0 hP hS (lv_sub hl [1, 2, 0] rfl) h
/-! AllocationProfiler$Checker.faultOf -/
def rm_Checker_faultOf : Room := { frames := 4, cells := 0, slots := 0, locals := 90 }
theorem d_Checker_faultOf_0 : decode b_Checker_faultOf 0 = .ok (.aload_n 1, 1) := by decide +kernel
theorem d_Checker_faultOf_1 : decode b_Checker_faultOf 1 = .ok (.aload_n 2, 1) := by decide +kernel
theorem d_Checker_faultOf_2 : decode b_Checker_faultOf 2 = .ok (.iload_n 3, 1) := by decide +kernel
theorem d_Checker_faultOf_3 : decode b_Checker_faultOf 3 = .ok (.invokestatic 22, 3) := by decide +kernel
theorem d_Checker_faultOf_6 : decode b_Checker_faultOf 6 = .ok (.istore 4, 2) := by decide +kernel
theorem d_Checker_faultOf_8 : decode b_Checker_faultOf 8 = .ok (.iload 4, 2) := by decide +kernel
theorem d_Checker_faultOf_10 : decode b_Checker_faultOf 10 = .ok (.iconst (-1), 1) := by decide +kernel
theorem d_Checker_faultOf_11 : decode b_Checker_faultOf 11 = .ok (.if_icmp .ne 9, 3) := by decide +kernel
theorem d_Checker_faultOf_14 : decode b_Checker_faultOf 14 = .ok (.aload_n 1, 1) := by decide +kernel
theorem d_Checker_faultOf_15 : decode b_Checker_faultOf 15 = .ok (.invokestatic 26, 3) := by decide +kernel
theorem d_Checker_faultOf_18 : decode b_Checker_faultOf 18 = .ok (.istore 4, 2) := by decide +kernel
theorem d_Checker_faultOf_20 : decode b_Checker_faultOf 20 = .ok (.iload 4, 2) := by decide +kernel
theorem d_Checker_faultOf_22 : decode b_Checker_faultOf 22 = .ok (.iconst (-1), 1) := by decide +kernel
theorem d_Checker_faultOf_23 : decode b_Checker_faultOf 23 = .ok (.if_icmp .ne 9, 3) := by decide +kernel
theorem d_Checker_faultOf_26 : decode b_Checker_faultOf 26 = .ok (.aload_n 1, 1) := by decide +kernel
theorem d_Checker_faultOf_27 : decode b_Checker_faultOf 27 = .ok (.invokestatic 30, 3) := by decide +kernel
theorem d_Checker_faultOf_30 : decode b_Checker_faultOf 30 = .ok (.istore 4, 2) := by decide +kernel
theorem d_Checker_faultOf_32 : decode b_Checker_faultOf 32 = .ok (.iload 4, 2) := by decide +kernel
theorem d_Checker_faultOf_34 : decode b_Checker_faultOf 34 = .ok (.iconst (-1), 1) := by decide +kernel
theorem d_Checker_faultOf_35 : decode b_Checker_faultOf 35 = .ok (.if_icmp .ne 10, 3) := by decide +kernel
theorem d_Checker_faultOf_38 : decode b_Checker_faultOf 38 = .ok (.aload_n 0, 1) := by decide +kernel
theorem d_Checker_faultOf_39 : decode b_Checker_faultOf 39 = .ok (.aload_n 1, 1) := by decide +kernel
theorem d_Checker_faultOf_40 : decode b_Checker_faultOf 40 = .ok (.invokevirtual 33, 3) := by decide +kernel
theorem d_Checker_faultOf_43 : decode b_Checker_faultOf 43 = .ok (.istore 4, 2) := by decide +kernel
theorem d_Checker_faultOf_45 : decode b_Checker_faultOf 45 = .ok (.iload 4, 2) := by decide +kernel
theorem d_Checker_faultOf_47 : decode b_Checker_faultOf 47 = .ok (.ireturn, 1) := by decide +kernel
def j_Checker_faultOf_32 (x0 : Nat) (x1 : Nat) (x4 : Int32) (M : fm_M) : Option (Int32 × fm_M) :=
  if x4 = (-1) then
    (ck x0 0).bind fun _ =>
    bd (f_Checker_wrongDepth x0 x1 M) fun x105 M103 =>
    some (x105, M103)
  else
    some (x4, M)
def j_Checker_faultOf_20 (x0 : Nat) (x1 : Nat) (x4 : Int32) (M : fm_M) : Option (Int32 × fm_M) :=
  if x4 = (-1) then
    bd (f_Checker_wrongRange x1 M) fun x109 M107 =>
    j_Checker_faultOf_32 x0 x1 x109 M107
  else
    j_Checker_faultOf_32 x0 x1 x4 M
def f_Checker_faultOf (x0 : Nat) (x1 : Nat) (x2 : Nat) (x3 : Int32) (M : fm_M) : Option (Int32 × fm_M) :=
  bd (f_Checker_wrongArgument x1 x2 x3 M) fun x112 M110 =>
  if x112 = (-1) then
    bd (f_Checker_openEnd x1 M110) fun x116 M114 =>
    j_Checker_faultOf_20 x0 x1 x116 M114
  else
    j_Checker_faultOf_20 x0 x1 x112 M110
set_option maxHeartbeats 4000000 in
set_option maxRecDepth 100000 in
theorem w_Checker_faultOf_32 {p : Program} {l : Launch} {e : Env} {s : State} {m : MethodId} {args : Array Value} {below : List Frame} {meth : Method} {c : Code} {G : fm_G} (C0 : fm_C p s m args meth c G (.code y_Checker_faultOf b_Checker_faultOf 5 (some .int)) "AllocationProfiler$Checker" b_Checker_faultOf 5 (some .int)) {v : Int32} {M' : fm_M} (x0 : Nat) (x1 : Nat) (x4 : Int32) {M : fm_M} {H : Heap} {locs : List Loc} (hP : kP G M H) (hS : kS G s H locs) {ls : Array Slot} (hl : lv_has ls 5 [(0, .ref (G.2.2 + x0)), (1, .ref (G.2.2 + x1)), (4, .int x4)]) (h : j_Checker_faultOf_32 x0 x1 x4 M = some (v, M')) : W p l e rm_Checker_faultOf s m args below meth c H locs 0 0 (MQ below (fm_Q G 212 shF (some (.int v)) M') args s 0 0 (fm_A G.2.2)) (F0 m 32 ls []) := by
  have hx := C0.1
  have hb := C0.2.1
  unfold j_Checker_faultOf_32 at h
  refine lv_iload hx hb d_Checker_faultOf_32 (lv_at hl 2 rfl) ?_
  refine lv_iconst (v := (-1)) hx hb d_Checker_faultOf_34 ic_m1 ?_
  refine lv_icmp_ne (tgt := 45) hx hb d_Checker_faultOf_35 (by decide) (fun c101 => ?_) (fun c101 => ?_)
  · rw [if_neg c101] at h
    refine lv_iload hx hb d_Checker_faultOf_45 (lv_at hl 2 rfl) ?_
    cases h
    exact r_iret C0 hP hS d_Checker_faultOf_47
  · rw [if_pos c101] at h
    refine lv_aload_n hx hb d_Checker_faultOf_38 rfl (lv_at hl 0 rfl) ?_
    refine lv_aload_n hx hb d_Checker_faultOf_39 rfl (lv_at hl 1 rfl) ?_
    obtain ⟨_, e102, h⟩ := ob h
    obtain ⟨x105, M103, e104, h⟩ := ob2 h
    refine k_cV C0 L_Checker_33 (As := [.ref (G.2.2 + x1)]) (c_Checker_wrongDepth l G x0 x1 e104) ⟨rfl, rfl⟩ ⟨Nat.le_of_ble_eq_true rfl, Nat.le_of_ble_eq_true rfl⟩ hP hS (ck_of e102) ly_Checker rfl hl.1 rfl (Nat.le_of_ble_eq_true rfl) d_Checker_faultOf_40 ⟨Nat.zero_le _, Nat.zero_le _⟩ (fun H locs hP hS => ?_)
    refine lv_istore (lv' := [(4, .int x105), (0, .ref (G.2.2 + x0)), (1, .ref (G.2.2 + x1))]) hx hb d_Checker_faultOf_43 hl (by decide) rfl (fun ls hl => ?_)
    refine lv_iload hx hb d_Checker_faultOf_45 (lv_at hl 0 rfl) ?_
    cases h
    exact r_iret C0 hP hS d_Checker_faultOf_47
set_option maxHeartbeats 4000000 in
set_option maxRecDepth 100000 in
theorem w_Checker_faultOf_20 {p : Program} {l : Launch} {e : Env} {s : State} {m : MethodId} {args : Array Value} {below : List Frame} {meth : Method} {c : Code} {G : fm_G} (C0 : fm_C p s m args meth c G (.code y_Checker_faultOf b_Checker_faultOf 5 (some .int)) "AllocationProfiler$Checker" b_Checker_faultOf 5 (some .int)) {v : Int32} {M' : fm_M} (x0 : Nat) (x1 : Nat) (x4 : Int32) {M : fm_M} {H : Heap} {locs : List Loc} (hP : kP G M H) (hS : kS G s H locs) {ls : Array Slot} (hl : lv_has ls 5 [(0, .ref (G.2.2 + x0)), (1, .ref (G.2.2 + x1)), (4, .int x4)]) (h : j_Checker_faultOf_20 x0 x1 x4 M = some (v, M')) : W p l e rm_Checker_faultOf s m args below meth c H locs 0 0 (MQ below (fm_Q G 212 shF (some (.int v)) M') args s 0 0 (fm_A G.2.2)) (F0 m 20 ls []) := by
  have hx := C0.1
  have hb := C0.2.1
  unfold j_Checker_faultOf_20 at h
  refine lv_iload hx hb d_Checker_faultOf_20 (lv_at hl 2 rfl) ?_
  refine lv_iconst (v := (-1)) hx hb d_Checker_faultOf_22 ic_m1 ?_
  refine lv_icmp_ne (tgt := 32) hx hb d_Checker_faultOf_23 (by decide) (fun c106 => ?_) (fun c106 => ?_)
  · rw [if_neg c106] at h
    exact w_Checker_faultOf_32 C0 x0 x1 x4 hP hS (lv_sub hl [0, 1, 2] rfl) h
  · rw [if_pos c106] at h
    refine lv_aload_n hx hb d_Checker_faultOf_26 rfl (lv_at hl 1 rfl) ?_
    obtain ⟨x109, M107, e108, h⟩ := ob2 h
    refine k_cS C0 L_Checker_30 (As := [.ref (G.2.2 + x1)]) (c_Checker_wrongRange l G x1 e108) ⟨rfl, rfl⟩ ⟨Nat.le_of_ble_eq_true rfl, Nat.le_of_ble_eq_true rfl⟩ hP hS rfl hl.1 rfl (Nat.le_of_ble_eq_true rfl) d_Checker_faultOf_27 ⟨Nat.zero_le _, Nat.zero_le _⟩ (fun H locs hP hS => ?_)
    refine lv_istore (lv' := [(4, .int x109), (0, .ref (G.2.2 + x0)), (1, .ref (G.2.2 + x1))]) hx hb d_Checker_faultOf_30 hl (by decide) rfl (fun ls hl => ?_)
    exact w_Checker_faultOf_32 C0 x0 x1 x109 hP hS (lv_sub hl [1, 2, 0] rfl) h
set_option maxHeartbeats 4000000 in
set_option maxRecDepth 100000 in
theorem c_Checker_faultOf (l : Launch) (G : fm_G) (x0 : Nat) (x1 : Nat) (x2 : Nat) (x3 : Int32) {v : Int32} {M M' : fm_M} (h : f_Checker_faultOf x0 x1 x2 x3 M = some (v, M')) : kMet l y_Checker_faultOf b_Checker_faultOf 5 (some .int) rm_Checker_faultOf G M [.ref (G.2.2 + x0), .ref (G.2.2 + x1), .ref (G.2.2 + x2), .int x3] (some (.int v)) M' := by
  refine r_met (by decide) rfl (Nat.le_of_ble_eq_true rfl) (fun p e s m args below meth c C0 hP ls hl => ?_)
  have hx := C0.1
  have hb := C0.2.1
  have hl : lv_has ls 5 [(0, .ref (G.2.2 + x0)), (1, .ref (G.2.2 + x1)), (2, .ref (G.2.2 + x2)), (3, .int x3)] := hl
  have hS : va_S (fm_A G.2.2) s.heap s.heap [] := va_S.rf
  unfold f_Checker_faultOf at h
  refine lv_aload_n hx hb d_Checker_faultOf_0 rfl (lv_at hl 1 rfl) ?_
  refine lv_aload_n hx hb d_Checker_faultOf_1 rfl (lv_at hl 2 rfl) ?_
  refine lv_iload_n hx hb d_Checker_faultOf_2 rfl (lv_at hl 3 rfl) ?_
  obtain ⟨x112, M110, e111, h⟩ := ob2 h
  refine k_cS C0 L_Checker_22 (As := [.ref (G.2.2 + x1), .ref (G.2.2 + x2), .int x3]) (c_Checker_wrongArgument l G x1 x2 x3 e111) ⟨rfl, rfl⟩ ⟨Nat.le_of_ble_eq_true rfl, Nat.le_of_ble_eq_true rfl⟩ hP hS rfl hl.1 rfl (Nat.le_of_ble_eq_true rfl) d_Checker_faultOf_3 ⟨Nat.zero_le _, Nat.zero_le _⟩ (fun H locs hP hS => ?_)
  refine lv_istore (lv' := [(4, .int x112), (0, .ref (G.2.2 + x0)), (1, .ref (G.2.2 + x1)), (2, .ref (G.2.2 + x2)), (3, .int x3)]) hx hb d_Checker_faultOf_6 hl (by decide) rfl (fun ls hl => ?_)
  refine lv_iload hx hb d_Checker_faultOf_8 (lv_at hl 0 rfl) ?_
  refine lv_iconst (v := (-1)) hx hb d_Checker_faultOf_10 ic_m1 ?_
  refine lv_icmp_ne (tgt := 20) hx hb d_Checker_faultOf_11 (by decide) (fun c113 => ?_) (fun c113 => ?_)
  · rw [if_neg c113] at h
    exact w_Checker_faultOf_20 C0 x0 x1 x112 hP hS (lv_sub hl [1, 2, 0] rfl) h
  · rw [if_pos c113] at h
    refine lv_aload_n hx hb d_Checker_faultOf_14 rfl (lv_at hl 2 rfl) ?_
    obtain ⟨x116, M114, e115, h⟩ := ob2 h
    refine k_cS C0 L_Checker_26 (As := [.ref (G.2.2 + x1)]) (c_Checker_openEnd l G x1 e115) ⟨rfl, rfl⟩ ⟨Nat.le_of_ble_eq_true rfl, Nat.le_of_ble_eq_true rfl⟩ hP hS rfl hl.1 rfl (Nat.le_of_ble_eq_true rfl) d_Checker_faultOf_15 ⟨Nat.zero_le _, Nat.zero_le _⟩ (fun H locs hP hS => ?_)
    refine lv_istore (lv' := [(4, .int x116), (0, .ref (G.2.2 + x0)), (1, .ref (G.2.2 + x1)), (2, .ref (G.2.2 + x2)), (3, .int x3)]) hx hb d_Checker_faultOf_18 hl (by decide) rfl (fun ls hl => ?_)
    exact w_Checker_faultOf_20 C0 x0 x1 x116 hP hS (lv_sub hl [1, 2, 0] rfl) h
/-! AllocationProfiler$Method.become -/
def rm_Method_become : Room := { frames := 3, cells := 0, slots := 0, locals := 65 }
theorem d_Method_become_0 : decode b_Method_become 0 = .ok (.aload_n 0, 1) := by decide +kernel
theorem d_Method_become_1 : decode b_Method_become 1 = .ok (.getfield 14, 3) := by decide +kernel
theorem d_Method_become_4 : decode b_Method_become 4 = .ok (.aload_n 1, 1) := by decide +kernel
theorem d_Method_become_5 : decode b_Method_become 5 = .ok (.invokevirtual 34, 3) := by decide +kernel
theorem d_Method_become_8 : decode b_Method_become 8 = .ok (.aload_n 0, 1) := by decide +kernel
theorem d_Method_become_9 : decode b_Method_become 9 = .ok (.getfield 20, 3) := by decide +kernel
theorem d_Method_become_12 : decode b_Method_become 12 = .ok (.aload_n 1, 1) := by decide +kernel
theorem d_Method_become_13 : decode b_Method_become 13 = .ok (.invokevirtual 34, 3) := by decide +kernel
theorem d_Method_become_16 : decode b_Method_become 16 = .ok (.aload_n 0, 1) := by decide +kernel
theorem d_Method_become_17 : decode b_Method_become 17 = .ok (.getfield 23, 3) := by decide +kernel
theorem d_Method_become_20 : decode b_Method_become 20 = .ok (.iconst (-1), 1) := by decide +kernel
theorem d_Method_become_21 : decode b_Method_become 21 = .ok (.invokestatic 38, 3) := by decide +kernel
theorem d_Method_become_24 : decode b_Method_become 24 = .ok (.return_, 1) := by decide +kernel
def f_Method_become (x0 : Nat) (x1 : Nat) (M : fm_M) : Option fm_M :=
  (gr x0 6 0).bind fun q101 =>
  (ck q101 1).bind fun _ =>
  (f_Code_copy q101 x1 M).bind fun M104 =>
  (gr x0 6 1).bind fun q106 =>
  (ck q106 1).bind fun _ =>
  (f_Code_copy q106 x1 M104).bind fun M109 =>
  (gr x0 6 2).bind fun q111 =>
  (f_Arrays_fill q111 (-1) M109).bind fun M113 =>
  some M113
set_option maxHeartbeats 4000000 in
set_option maxRecDepth 100000 in
theorem c_Method_become (l : Launch) (G : fm_G) (x0 : Nat) (x1 : Nat) {M M' : fm_M} (h : f_Method_become x0 x1 M = some M') : kMet l y_Method_become b_Method_become 2 none rm_Method_become G M [.ref (G.2.2 + x0), .ref (G.2.2 + x1)] none M' := by
  refine r_met (by decide) rfl (Nat.le_of_ble_eq_true rfl) (fun p e s m args below meth c C0 hP ls hl => ?_)
  have hx := C0.1
  have hb := C0.2.1
  have hl : lv_has ls 2 [(0, .ref (G.2.2 + x0)), (1, .ref (G.2.2 + x1))] := hl
  have hS : va_S (fm_A G.2.2) s.heap s.heap [] := va_S.rf
  unfold f_Method_become at h
  refine lv_aload_n hx hb d_Method_become_0 rfl (lv_at hl 0 rfl) ?_
  obtain ⟨q101, e102, h⟩ := ob h
  refine k_gr C0 F_Method_14 hP e102 d_Method_become_1 ?_
  refine lv_aload_n hx hb d_Method_become_4 rfl (lv_at hl 1 rfl) ?_
  obtain ⟨_, e103, h⟩ := ob h
  obtain ⟨M104, e105, h⟩ := ob h
  refine k_cVv C0 L_Method_34 (As := [.ref (G.2.2 + x1)]) (c_Code_copy l G q101 x1 e105) ⟨rfl, rfl⟩ ⟨Nat.le_of_ble_eq_true rfl, Nat.le_of_ble_eq_true rfl⟩ hP hS (ck_of e103) ly_Code rfl hl.1 rfl (Nat.le_of_ble_eq_true rfl) d_Method_become_5 ⟨Nat.zero_le _, Nat.zero_le _⟩ (fun H locs hP hS => ?_)
  refine lv_aload_n hx hb d_Method_become_8 rfl (lv_at hl 0 rfl) ?_
  obtain ⟨q106, e107, h⟩ := ob h
  refine k_gr C0 F_Method_20 hP e107 d_Method_become_9 ?_
  refine lv_aload_n hx hb d_Method_become_12 rfl (lv_at hl 1 rfl) ?_
  obtain ⟨_, e108, h⟩ := ob h
  obtain ⟨M109, e110, h⟩ := ob h
  refine k_cVv C0 L_Method_34 (As := [.ref (G.2.2 + x1)]) (c_Code_copy l G q106 x1 e110) ⟨rfl, rfl⟩ ⟨Nat.le_of_ble_eq_true rfl, Nat.le_of_ble_eq_true rfl⟩ hP hS (ck_of e108) ly_Code rfl hl.1 rfl (Nat.le_of_ble_eq_true rfl) d_Method_become_13 ⟨Nat.zero_le _, Nat.zero_le _⟩ (fun H locs hP hS => ?_)
  refine lv_aload_n hx hb d_Method_become_16 rfl (lv_at hl 0 rfl) ?_
  obtain ⟨q111, e112, h⟩ := ob h
  refine k_gr C0 F_Method_23 hP e112 d_Method_become_17 ?_
  refine lv_iconst (v := (-1)) hx hb d_Method_become_20 ic_m1 ?_
  obtain ⟨M113, e114, h⟩ := ob h
  refine k_cSv C0 L_Method_38 (As := [.ref (G.2.2 + q111), .int (-1)]) (c_Arrays_fill l G q111 (-1) e114) ⟨rfl, rfl⟩ ⟨Nat.le_of_ble_eq_true rfl, Nat.le_of_ble_eq_true rfl⟩ hP hS rfl hl.1 rfl (Nat.le_of_ble_eq_true rfl) d_Method_become_21 ⟨Nat.zero_le _, Nat.zero_le _⟩ (fun H locs hP hS => ?_)
  cases h
  exact r_vret C0 hP hS d_Method_become_24
/-! AllocationProfiler$Method.findPlaces -/
def rm_Method_findPlaces : Room := { frames := 1, cells := 0, slots := 0, locals := 20 }
theorem d_Method_findPlaces_0 : decode b_Method_findPlaces 0 = .ok (.iconst 0, 1) := by decide +kernel
theorem d_Method_findPlaces_1 : decode b_Method_findPlaces 1 = .ok (.istore_n 1, 1) := by decide +kernel
theorem d_Method_findPlaces_2 : decode b_Method_findPlaces 2 = .ok (.iconst 0, 1) := by decide +kernel
theorem d_Method_findPlaces_3 : decode b_Method_findPlaces 3 = .ok (.istore_n 2, 1) := by decide +kernel
theorem d_Method_findPlaces_4 : decode b_Method_findPlaces 4 = .ok (.iload_n 2, 1) := by decide +kernel
theorem d_Method_findPlaces_5 : decode b_Method_findPlaces 5 = .ok (.aload_n 0, 1) := by decide +kernel
theorem d_Method_findPlaces_6 : decode b_Method_findPlaces 6 = .ok (.getfield 14, 3) := by decide +kernel
theorem d_Method_findPlaces_9 : decode b_Method_findPlaces 9 = .ok (.getfield 47, 3) := by decide +kernel
theorem d_Method_findPlaces_12 : decode b_Method_findPlaces 12 = .ok (.if_icmp .ge 39, 3) := by decide +kernel
theorem d_Method_findPlaces_15 : decode b_Method_findPlaces 15 = .ok (.aload_n 0, 1) := by decide +kernel
theorem d_Method_findPlaces_16 : decode b_Method_findPlaces 16 = .ok (.getfield 27, 3) := by decide +kernel
theorem d_Method_findPlaces_19 : decode b_Method_findPlaces 19 = .ok (.iload_n 2, 1) := by decide +kernel
theorem d_Method_findPlaces_20 : decode b_Method_findPlaces 20 = .ok (.iload_n 1, 1) := by decide +kernel
theorem d_Method_findPlaces_21 : decode b_Method_findPlaces 21 = .ok (.iastore, 1) := by decide +kernel
theorem d_Method_findPlaces_22 : decode b_Method_findPlaces 22 = .ok (.iload_n 1, 1) := by decide +kernel
theorem d_Method_findPlaces_23 : decode b_Method_findPlaces 23 = .ok (.aload_n 0, 1) := by decide +kernel
theorem d_Method_findPlaces_24 : decode b_Method_findPlaces 24 = .ok (.getfield 14, 3) := by decide +kernel
theorem d_Method_findPlaces_27 : decode b_Method_findPlaces 27 = .ok (.getfield 58, 3) := by decide +kernel
theorem d_Method_findPlaces_30 : decode b_Method_findPlaces 30 = .ok (.iload_n 2, 1) := by decide +kernel
theorem d_Method_findPlaces_31 : decode b_Method_findPlaces 31 = .ok (.iaload, 1) := by decide +kernel
theorem d_Method_findPlaces_32 : decode b_Method_findPlaces 32 = .ok (.invokestatic 72, 3) := by decide +kernel
theorem d_Method_findPlaces_35 : decode b_Method_findPlaces 35 = .ok (.ifCond .eq 7, 3) := by decide +kernel
theorem d_Method_findPlaces_38 : decode b_Method_findPlaces 38 = .ok (.iconst 2, 1) := by decide +kernel
theorem d_Method_findPlaces_39 : decode b_Method_findPlaces 39 = .ok (.goto 4, 3) := by decide +kernel
theorem d_Method_findPlaces_42 : decode b_Method_findPlaces 42 = .ok (.iconst 1, 1) := by decide +kernel
theorem d_Method_findPlaces_43 : decode b_Method_findPlaces 43 = .ok (.iadd, 1) := by decide +kernel
theorem d_Method_findPlaces_44 : decode b_Method_findPlaces 44 = .ok (.istore_n 1, 1) := by decide +kernel
theorem d_Method_findPlaces_45 : decode b_Method_findPlaces 45 = .ok (.iinc 2 1, 3) := by decide +kernel
theorem d_Method_findPlaces_48 : decode b_Method_findPlaces 48 = .ok (.goto (-44), 3) := by decide +kernel
theorem d_Method_findPlaces_51 : decode b_Method_findPlaces 51 = .ok (.aload_n 0, 1) := by decide +kernel
theorem d_Method_findPlaces_52 : decode b_Method_findPlaces 52 = .ok (.getfield 27, 3) := by decide +kernel
theorem d_Method_findPlaces_55 : decode b_Method_findPlaces 55 = .ok (.aload_n 0, 1) := by decide +kernel
theorem d_Method_findPlaces_56 : decode b_Method_findPlaces 56 = .ok (.getfield 14, 3) := by decide +kernel
theorem d_Method_findPlaces_59 : decode b_Method_findPlaces 59 = .ok (.getfield 47, 3) := by decide +kernel
theorem d_Method_findPlaces_62 : decode b_Method_findPlaces 62 = .ok (.iload_n 1, 1) := by decide +kernel
theorem d_Method_findPlaces_63 : decode b_Method_findPlaces 63 = .ok (.iastore, 1) := by decide +kernel
theorem d_Method_findPlaces_64 : decode b_Method_findPlaces 64 = .ok (.return_, 1) := by decide +kernel
def j_Method_findPlaces_43 (k4 : Nat → Int32 → Int32 → fm_M → Option fm_M) (x0 : Nat) (x2 : Int32) (s0 : Int32) (s1 : Int32) (M : fm_M) : Option fm_M :=
  k4 x0 (s0 + s1) (x2 + 1) M
def h_Method_findPlaces_4 : Nat → Nat → Int32 → Int32 → fm_M → Option fm_M
  | 0, _, _, _, _ => none
  | n + 1, x0, x1, x2, M =>
    (gr x0 6 0).bind fun q101 =>
    (gi q101 1 5 M).bind fun x103 =>
    if x103 ≤ x2 then
      (gr x0 6 3).bind fun q106 =>
      (gr x0 6 0).bind fun q108 =>
      (gi q108 1 5 M).bind fun x110 =>
      (si q106 x110 x1 M).bind fun M112 =>
      some M112
    else
      (gr x0 6 3).bind fun q114 =>
      (si q114 x2 x1 M).bind fun M116 =>
      (gr x0 6 0).bind fun q118 =>
      (gr q118 1 0).bind fun q120 =>
      (ai q120 x2 M116).bind fun x122 =>
      bd (f_AP_makesObject x122 M116) fun x126 M124 =>
      if x126 = 0 then
        j_Method_findPlaces_43 (h_Method_findPlaces_4 n) x0 x2 x1 1 M124
      else
        j_Method_findPlaces_43 (h_Method_findPlaces_4 n) x0 x2 x1 2 M124
def f_Method_findPlaces (x0 : Nat) (M : fm_M) : Option fm_M :=
  h_Method_findPlaces_4 100000 x0 0 0 M
set_option maxHeartbeats 4000000 in
set_option maxRecDepth 100000 in
theorem w_Method_findPlaces_43 {p : Program} {l : Launch} {e : Env} {s : State} {m : MethodId} {args : Array Value} {below : List Frame} {meth : Method} {c : Code} {G : fm_G} (C0 : fm_C p s m args meth c G (.code y_Method_findPlaces b_Method_findPlaces 3 none) "AllocationProfiler$Method" b_Method_findPlaces 3 none) {M' : fm_M} (k4 : Nat → Int32 → Int32 → fm_M → Option fm_M) (hk4 : ∀ (x0 : Nat) (x1 : Int32) (x2 : Int32) {M : fm_M} {H : Heap} {locs : List Loc}, kP G M H → kS G s H locs → ∀ {ls : Array Slot}, lv_has ls 3 [(0, .ref (G.2.2 + x0)), (1, .int x1), (2, .int x2)] → k4 x0 x1 x2 M = some M' → W p l e rm_Method_findPlaces s m args below meth c H locs 0 0 (MQ below (fm_Q G 212 shF none M') args s 0 0 (fm_A G.2.2)) (F0 m 4 ls [])) (x0 : Nat) (x2 : Int32) (s0 : Int32) (s1 : Int32) {M : fm_M} {H : Heap} {locs : List Loc} (hP : kP G M H) (hS : kS G s H locs) {ls : Array Slot} (hl : lv_has ls 3 [(0, .ref (G.2.2 + x0)), (2, .int x2)]) (h : j_Method_findPlaces_43 k4 x0 x2 s0 s1 M = some M') : W p l e rm_Method_findPlaces s m args below meth c H locs 0 0 (MQ below (fm_Q G 212 shF none M') args s 0 0 (fm_A G.2.2)) (F0 m 43 ls [.int s1, .int s0]) := by
  have hx := C0.1
  have hb := C0.2.1
  unfold j_Method_findPlaces_43 at h
  refine lv_iadd hx hb d_Method_findPlaces_43 ?_
  refine lv_istore_n (lv' := [(1, .int (s0 + s1)), (0, .ref (G.2.2 + x0)), (2, .int x2)]) hx hb d_Method_findPlaces_44 rfl hl (by decide) rfl (fun ls hl => ?_)
  refine lv_iinc (v := (x2 + 1)) (lv' := [(2, .int (x2 + 1)), (1, .int (s0 + s1)), (0, .ref (G.2.2 + x0))]) hx hb d_Method_findPlaces_45 hl (k := 2) rfl (congrArg (fun z => x2 + z) ic_1) (by decide) rfl (fun ls hl => ?_)
  refine lv_goto (tgt := 4) hx hb d_Method_findPlaces_48 (by decide) ?_
  exact hk4 x0 (s0 + s1) (x2 + 1) hP hS (lv_sub hl [2, 1, 0] rfl) h
set_option maxHeartbeats 4000000 in
set_option maxRecDepth 100000 in
theorem w_Method_findPlaces_4 {p : Program} {l : Launch} {e : Env} {s : State} {m : MethodId} {args : Array Value} {below : List Frame} {meth : Method} {c : Code} {G : fm_G} (C0 : fm_C p s m args meth c G (.code y_Method_findPlaces b_Method_findPlaces 3 none) "AllocationProfiler$Method" b_Method_findPlaces 3 none) {M' : fm_M} : ∀ (n : Nat) (x0 : Nat) (x1 : Int32) (x2 : Int32) {M : fm_M} {H : Heap} {locs : List Loc}, kP G M H → kS G s H locs → ∀ {ls : Array Slot}, lv_has ls 3 [(0, .ref (G.2.2 + x0)), (1, .int x1), (2, .int x2)] → h_Method_findPlaces_4 n x0 x1 x2 M = some M' → W p l e rm_Method_findPlaces s m args below meth c H locs 0 0 (MQ below (fm_Q G 212 shF none M') args s 0 0 (fm_A G.2.2)) (F0 m 4 ls []) := by
  have hx := C0.1
  have hb := C0.2.1
  intro n
  induction n with
  | zero =>
    intro x0 x1 x2 M H locs hP hS ls hl h
    exact nomatch h
  | succ n ih =>
    intro x0 x1 x2 M H locs hP hS ls hl h
    have h : ((gr x0 6 0).bind fun q101 =>
      (gi q101 1 5 M).bind fun x103 =>
      if x103 ≤ x2 then
        (gr x0 6 3).bind fun q106 =>
        (gr x0 6 0).bind fun q108 =>
        (gi q108 1 5 M).bind fun x110 =>
        (si q106 x110 x1 M).bind fun M112 =>
        some M112
      else
        (gr x0 6 3).bind fun q114 =>
        (si q114 x2 x1 M).bind fun M116 =>
        (gr x0 6 0).bind fun q118 =>
        (gr q118 1 0).bind fun q120 =>
        (ai q120 x2 M116).bind fun x122 =>
        bd (f_AP_makesObject x122 M116) fun x126 M124 =>
        if x126 = 0 then
          j_Method_findPlaces_43 (h_Method_findPlaces_4 n) x0 x2 x1 1 M124
        else
          j_Method_findPlaces_43 (h_Method_findPlaces_4 n) x0 x2 x1 2 M124) = some M' := h
    refine lv_iload_n hx hb d_Method_findPlaces_4 rfl (lv_at hl 2 rfl) ?_
    refine lv_aload_n hx hb d_Method_findPlaces_5 rfl (lv_at hl 0 rfl) ?_
    obtain ⟨q101, e102, h⟩ := ob h
    refine k_gr C0 F_Method_14 hP e102 d_Method_findPlaces_6 ?_
    obtain ⟨x103, e104, h⟩ := ob h
    refine k_gi C0 F_Method_47 ik_1_5 hP e104 d_Method_findPlaces_9 ?_
    refine lv_icmp_ge (tgt := 51) hx hb d_Method_findPlaces_12 (by decide) (fun c105 => ?_) (fun c105 => ?_)
    · rw [if_pos c105] at h
      refine lv_aload_n hx hb d_Method_findPlaces_51 rfl (lv_at hl 0 rfl) ?_
      obtain ⟨q106, e107, h⟩ := ob h
      refine k_gr C0 F_Method_27 hP e107 d_Method_findPlaces_52 ?_
      refine lv_aload_n hx hb d_Method_findPlaces_55 rfl (lv_at hl 0 rfl) ?_
      obtain ⟨q108, e109, h⟩ := ob h
      refine k_gr C0 F_Method_14 hP e109 d_Method_findPlaces_56 ?_
      obtain ⟨x110, e111, h⟩ := ob h
      refine k_gi C0 F_Method_47 ik_1_5 hP e111 d_Method_findPlaces_59 ?_
      refine lv_iload_n hx hb d_Method_findPlaces_62 rfl (lv_at hl 1 rfl) ?_
      obtain ⟨M112, e113, h⟩ := ob h
      refine k_si C0 hP hS e113 d_Method_findPlaces_63 (fun H locs hP hS => ?_)
      cases h
      exact r_vret C0 hP hS d_Method_findPlaces_64
    · rw [if_neg c105] at h
      refine lv_aload_n hx hb d_Method_findPlaces_15 rfl (lv_at hl 0 rfl) ?_
      obtain ⟨q114, e115, h⟩ := ob h
      refine k_gr C0 F_Method_27 hP e115 d_Method_findPlaces_16 ?_
      refine lv_iload_n hx hb d_Method_findPlaces_19 rfl (lv_at hl 2 rfl) ?_
      refine lv_iload_n hx hb d_Method_findPlaces_20 rfl (lv_at hl 1 rfl) ?_
      obtain ⟨M116, e117, h⟩ := ob h
      refine k_si C0 hP hS e117 d_Method_findPlaces_21 (fun H locs hP hS => ?_)
      refine lv_iload_n hx hb d_Method_findPlaces_22 rfl (lv_at hl 1 rfl) ?_
      refine lv_aload_n hx hb d_Method_findPlaces_23 rfl (lv_at hl 0 rfl) ?_
      obtain ⟨q118, e119, h⟩ := ob h
      refine k_gr C0 F_Method_14 hP e119 d_Method_findPlaces_24 ?_
      obtain ⟨q120, e121, h⟩ := ob h
      refine k_gr C0 F_Method_58 hP e121 d_Method_findPlaces_27 ?_
      refine lv_iload_n hx hb d_Method_findPlaces_30 rfl (lv_at hl 2 rfl) ?_
      obtain ⟨x122, e123, h⟩ := ob h
      refine k_ai C0 hP e123 d_Method_findPlaces_31 ?_
      obtain ⟨x126, M124, e125, h⟩ := ob2 h
      refine k_cSN C0 L_Method_72 (As := [.int x122]) (c_AP_makesObject l G x122 e125) ⟨rfl, rfl⟩ ⟨Nat.le_of_ble_eq_true rfl, Nat.le_of_ble_eq_true rfl⟩ hP hS rfl hl.1 rfl (Nat.le_of_ble_eq_true rfl) d_Method_findPlaces_32 ⟨Nat.zero_le _, Nat.zero_le _⟩ (fun H locs hP hS => ?_)
      refine lv_if_eq (tgt := 42) hx hb d_Method_findPlaces_35 (by decide) (fun c127 => ?_) (fun c127 => ?_)
      · rw [if_pos c127] at h
        refine lv_iconst (v := 1) hx hb d_Method_findPlaces_42 ic_1 ?_
        exact w_Method_findPlaces_43 C0 (h_Method_findPlaces_4 n) ih x0 x2 x1 1 hP hS (lv_sub hl [0, 2] rfl) h
      · rw [if_neg c127] at h
        refine lv_iconst (v := 2) hx hb d_Method_findPlaces_38 ic_2 ?_
        refine lv_goto (tgt := 43) hx hb d_Method_findPlaces_39 (by decide) ?_
        exact w_Method_findPlaces_43 C0 (h_Method_findPlaces_4 n) ih x0 x2 x1 2 hP hS (lv_sub hl [0, 2] rfl) h
set_option maxHeartbeats 4000000 in
set_option maxRecDepth 100000 in
theorem c_Method_findPlaces (l : Launch) (G : fm_G) (x0 : Nat) {M M' : fm_M} (h : f_Method_findPlaces x0 M = some M') : kMet l y_Method_findPlaces b_Method_findPlaces 3 none rm_Method_findPlaces G M [.ref (G.2.2 + x0)] none M' := by
  refine r_met (by decide) rfl (Nat.le_of_ble_eq_true rfl) (fun p e s m args below meth c C0 hP ls hl => ?_)
  have hx := C0.1
  have hb := C0.2.1
  have hl : lv_has ls 3 [(0, .ref (G.2.2 + x0))] := hl
  have hS : va_S (fm_A G.2.2) s.heap s.heap [] := va_S.rf
  unfold f_Method_findPlaces at h
  refine lv_iconst (v := 0) hx hb d_Method_findPlaces_0 ic_0 ?_
  refine lv_istore_n (lv' := [(1, .int 0), (0, .ref (G.2.2 + x0))]) hx hb d_Method_findPlaces_1 rfl hl (by decide) rfl (fun ls hl => ?_)
  refine lv_iconst (v := 0) hx hb d_Method_findPlaces_2 ic_0 ?_
  refine lv_istore_n (lv' := [(2, .int 0), (1, .int 0), (0, .ref (G.2.2 + x0))]) hx hb d_Method_findPlaces_3 rfl hl (by decide) rfl (fun ls hl => ?_)
  exact w_Method_findPlaces_4 C0 100000 x0 0 0 hP hS (lv_sub hl [2, 1, 0] rfl) h
/-! AllocationProfiler$Method.placeOf -/
def rm_Method_placeOf : Room := { frames := 0, cells := 0, slots := 0, locals := 0 }
theorem d_Method_placeOf_0 : decode b_Method_placeOf 0 = .ok (.iload_n 1, 1) := by decide +kernel
theorem d_Method_placeOf_1 : decode b_Method_placeOf 1 = .ok (.ifCond .lt 21, 3) := by decide +kernel
theorem d_Method_placeOf_4 : decode b_Method_placeOf 4 = .ok (.iload_n 1, 1) := by decide +kernel
theorem d_Method_placeOf_5 : decode b_Method_placeOf 5 = .ok (.aload_n 0, 1) := by decide +kernel
theorem d_Method_placeOf_6 : decode b_Method_placeOf 6 = .ok (.getfield 27, 3) := by decide +kernel
theorem d_Method_placeOf_9 : decode b_Method_placeOf 9 = .ok (.arraylength, 1) := by decide +kernel
theorem d_Method_placeOf_10 : decode b_Method_placeOf 10 = .ok (.if_icmp .ge 12, 3) := by decide +kernel
theorem d_Method_placeOf_13 : decode b_Method_placeOf 13 = .ok (.aload_n 0, 1) := by decide +kernel
theorem d_Method_placeOf_14 : decode b_Method_placeOf 14 = .ok (.getfield 27, 3) := by decide +kernel
theorem d_Method_placeOf_17 : decode b_Method_placeOf 17 = .ok (.iload_n 1, 1) := by decide +kernel
theorem d_Method_placeOf_18 : decode b_Method_placeOf 18 = .ok (.iaload, 1) := by decide +kernel
theorem d_Method_placeOf_19 : decode b_Method_placeOf 19 = .ok (.goto 4, 3) := by decide +kernel
theorem d_Method_placeOf_22 : decode b_Method_placeOf 22 = .ok (.iconst 0, 1) := by decide +kernel
theorem d_Method_placeOf_23 : decode b_Method_placeOf 23 = .ok (.ireturn, 1) := by decide +kernel
def f_Method_placeOf (x0 : Nat) (x1 : Int32) (M : fm_M) : Option (Int32 × fm_M) :=
  if x1 < 0 then
    some (0, M)
  else
    (gr x0 6 3).bind fun q102 =>
    (ln q102).bind fun x104 =>
    if x104 ≤ x1 then
      some (0, M)
    else
      (gr x0 6 3).bind fun q107 =>
      (ai q107 x1 M).bind fun x109 =>
      some (x109, M)
set_option maxHeartbeats 4000000 in
set_option maxRecDepth 100000 in
theorem c_Method_placeOf (l : Launch) (G : fm_G) (x0 : Nat) (x1 : Int32) {v : Int32} {M M' : fm_M} (h : f_Method_placeOf x0 x1 M = some (v, M')) : kMet l y_Method_placeOf b_Method_placeOf 2 (some .int) rm_Method_placeOf G M [.ref (G.2.2 + x0), .int x1] (some (.int v)) M' := by
  refine r_met (by decide) rfl (Nat.le_of_ble_eq_true rfl) (fun p e s m args below meth c C0 hP ls hl => ?_)
  have hx := C0.1
  have hb := C0.2.1
  have hl : lv_has ls 2 [(0, .ref (G.2.2 + x0)), (1, .int x1)] := hl
  have hS : va_S (fm_A G.2.2) s.heap s.heap [] := va_S.rf
  unfold f_Method_placeOf at h
  refine lv_iload_n hx hb d_Method_placeOf_0 rfl (lv_at hl 1 rfl) ?_
  refine lv_if_lt (tgt := 22) hx hb d_Method_placeOf_1 (by decide) (fun c101 => ?_) (fun c101 => ?_)
  · rw [if_pos c101] at h
    refine lv_iconst (v := 0) hx hb d_Method_placeOf_22 ic_0 ?_
    cases h
    exact r_iret C0 hP hS d_Method_placeOf_23
  · rw [if_neg c101] at h
    refine lv_iload_n hx hb d_Method_placeOf_4 rfl (lv_at hl 1 rfl) ?_
    refine lv_aload_n hx hb d_Method_placeOf_5 rfl (lv_at hl 0 rfl) ?_
    obtain ⟨q102, e103, h⟩ := ob h
    refine k_gr C0 F_Method_27 hP e103 d_Method_placeOf_6 ?_
    obtain ⟨x104, e105, h⟩ := ob h
    refine k_ln C0 hP e105 d_Method_placeOf_9 ?_
    refine lv_icmp_ge (tgt := 22) hx hb d_Method_placeOf_10 (by decide) (fun c106 => ?_) (fun c106 => ?_)
    · rw [if_pos c106] at h
      refine lv_iconst (v := 0) hx hb d_Method_placeOf_22 ic_0 ?_
      cases h
      exact r_iret C0 hP hS d_Method_placeOf_23
    · rw [if_neg c106] at h
      refine lv_aload_n hx hb d_Method_placeOf_13 rfl (lv_at hl 0 rfl) ?_
      obtain ⟨q107, e108, h⟩ := ob h
      refine k_gr C0 F_Method_27 hP e108 d_Method_placeOf_14 ?_
      refine lv_iload_n hx hb d_Method_placeOf_17 rfl (lv_at hl 1 rfl) ?_
      obtain ⟨x109, e110, h⟩ := ob h
      refine k_ai C0 hP e110 d_Method_placeOf_18 ?_
      refine lv_goto (tgt := 23) hx hb d_Method_placeOf_19 (by decide) ?_
      cases h
      exact r_iret C0 hP hS d_Method_placeOf_23
