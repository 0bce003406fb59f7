/-! AllocationProfilerModel.weave -/
def rm_Mo_weave : Room := { frames := 3, cells := 0, slots := 0, locals := 70 }
theorem d_Mo_weave_0 : decode b_Mo_weave 0 = .ok (.aload_n 0, 1) := by decide +kernel
theorem d_Mo_weave_1 : decode b_Mo_weave 1 = .ok (.iload_n 1, 1) := by decide +kernel
theorem d_Mo_weave_2 : decode b_Mo_weave 2 = .ok (.bipush 50, 2) := by decide +kernel
theorem d_Mo_weave_4 : decode b_Mo_weave 4 = .ok (.if_icmp .lt 9, 3) := by decide +kernel
theorem d_Mo_weave_7 : decode b_Mo_weave 7 = .ok (.iload_n 1, 1) := by decide +kernel
theorem d_Mo_weave_8 : decode b_Mo_weave 8 = .ok (.ldc 195, 2) := by decide +kernel
theorem d_Mo_weave_10 : decode b_Mo_weave 10 = .ok (.if_icmp .le 7, 3) := by decide +kernel
theorem d_Mo_weave_13 : decode b_Mo_weave 13 = .ok (.iconst 1, 1) := by decide +kernel
theorem d_Mo_weave_14 : decode b_Mo_weave 14 = .ok (.goto 22, 3) := by decide +kernel
theorem d_Mo_weave_17 : decode b_Mo_weave 17 = .ok (.aload_n 0, 1) := by decide +kernel
theorem d_Mo_weave_18 : decode b_Mo_weave 18 = .ok (.getfield 132, 3) := by decide +kernel
theorem d_Mo_weave_21 : decode b_Mo_weave 21 = .ok (.ifCond .ne 10, 3) := by decide +kernel
theorem d_Mo_weave_24 : decode b_Mo_weave 24 = .ok (.aload_n 0, 1) := by decide +kernel
theorem d_Mo_weave_25 : decode b_Mo_weave 25 = .ok (.getfield 154, 3) := by decide +kernel
theorem d_Mo_weave_28 : decode b_Mo_weave 28 = .ok (.ifCond .ne 7, 3) := by decide +kernel
theorem d_Mo_weave_31 : decode b_Mo_weave 31 = .ok (.iconst 2, 1) := by decide +kernel
theorem d_Mo_weave_32 : decode b_Mo_weave 32 = .ok (.goto 4, 3) := by decide +kernel
theorem d_Mo_weave_35 : decode b_Mo_weave 35 = .ok (.iconst 0, 1) := by decide +kernel
theorem d_Mo_weave_36 : decode b_Mo_weave 36 = .ok (.putfield 122, 3) := by decide +kernel
theorem d_Mo_weave_39 : decode b_Mo_weave 39 = .ok (.aload_n 0, 1) := by decide +kernel
theorem d_Mo_weave_40 : decode b_Mo_weave 40 = .ok (.getfield 122, 3) := by decide +kernel
theorem d_Mo_weave_43 : decode b_Mo_weave 43 = .ok (.ifCond .le 5, 3) := by decide +kernel
theorem d_Mo_weave_46 : decode b_Mo_weave 46 = .ok (.iconst 0, 1) := by decide +kernel
theorem d_Mo_weave_47 : decode b_Mo_weave 47 = .ok (.ireturn, 1) := by decide +kernel
theorem d_Mo_weave_48 : decode b_Mo_weave 48 = .ok (.iconst 0, 1) := by decide +kernel
theorem d_Mo_weave_49 : decode b_Mo_weave 49 = .ok (.istore_n 2, 1) := by decide +kernel
theorem d_Mo_weave_50 : decode b_Mo_weave 50 = .ok (.iload_n 2, 1) := by decide +kernel
theorem d_Mo_weave_51 : decode b_Mo_weave 51 = .ok (.aload_n 0, 1) := by decide +kernel
theorem d_Mo_weave_52 : decode b_Mo_weave 52 = .ok (.getfield 154, 3) := by decide +kernel
theorem d_Mo_weave_55 : decode b_Mo_weave 55 = .ok (.if_icmp .ge 14, 3) := by decide +kernel
theorem d_Mo_weave_58 : decode b_Mo_weave 58 = .ok (.aload_n 0, 1) := by decide +kernel
theorem d_Mo_weave_59 : decode b_Mo_weave 59 = .ok (.iload_n 2, 1) := by decide +kernel
theorem d_Mo_weave_60 : decode b_Mo_weave 60 = .ok (.invokevirtual 196, 3) := by decide +kernel
theorem d_Mo_weave_63 : decode b_Mo_weave 63 = .ok (.iinc 2 1, 3) := by decide +kernel
theorem d_Mo_weave_66 : decode b_Mo_weave 66 = .ok (.goto (-16), 3) := by decide +kernel
theorem d_Mo_weave_69 : decode b_Mo_weave 69 = .ok (.aload_n 0, 1) := by decide +kernel
theorem d_Mo_weave_70 : decode b_Mo_weave 70 = .ok (.iload_n 1, 1) := by decide +kernel
theorem d_Mo_weave_71 : decode b_Mo_weave 71 = .ok (.putfield 199, 3) := by decide +kernel
theorem d_Mo_weave_74 : decode b_Mo_weave 74 = .ok (.iconst 0, 1) := by decide +kernel
theorem d_Mo_weave_75 : decode b_Mo_weave 75 = .ok (.istore_n 2, 1) := by decide +kernel
theorem d_Mo_weave_76 : decode b_Mo_weave 76 = .ok (.iload_n 2, 1) := by decide +kernel
theorem d_Mo_weave_77 : decode b_Mo_weave 77 = .ok (.iconst 3, 1) := by decide +kernel
theorem d_Mo_weave_78 : decode b_Mo_weave 78 = .ok (.if_icmp .ge 16, 3) := by decide +kernel
theorem d_Mo_weave_81 : decode b_Mo_weave 81 = .ok (.aload_n 0, 1) := by decide +kernel
theorem d_Mo_weave_82 : decode b_Mo_weave 82 = .ok (.getfield 110, 3) := by decide +kernel
theorem d_Mo_weave_85 : decode b_Mo_weave 85 = .ok (.iload_n 2, 1) := by decide +kernel
theorem d_Mo_weave_86 : decode b_Mo_weave 86 = .ok (.iload_n 1, 1) := by decide +kernel
theorem d_Mo_weave_87 : decode b_Mo_weave 87 = .ok (.iastore, 1) := by decide +kernel
theorem d_Mo_weave_88 : decode b_Mo_weave 88 = .ok (.iinc 2 1, 3) := by decide +kernel
theorem d_Mo_weave_91 : decode b_Mo_weave 91 = .ok (.goto (-15), 3) := by decide +kernel
theorem d_Mo_weave_94 : decode b_Mo_weave 94 = .ok (.aload_n 0, 1) := by decide +kernel
theorem d_Mo_weave_95 : decode b_Mo_weave 95 = .ok (.iconst 1, 1) := by decide +kernel
theorem d_Mo_weave_96 : decode b_Mo_weave 96 = .ok (.putfield 132, 3) := by decide +kernel
theorem d_Mo_weave_99 : decode b_Mo_weave 99 = .ok (.aload_n 0, 1) := by decide +kernel
theorem d_Mo_weave_100 : decode b_Mo_weave 100 = .ok (.getfield 192, 3) := by decide +kernel
theorem d_Mo_weave_103 : decode b_Mo_weave 103 = .ok (.ireturn, 1) := by decide +kernel
def h_Mo_weave_76 : Nat → Nat → Int32 → Int32 → fm_M → Option (Int32 × fm_M)
  | 0, _, _, _, _ => none
  | n + 1, x0, x1, x2, M =>
    if 3 ≤ x2 then
      (pi x0 10 11 1 M).bind fun M102 =>
      (gi x0 10 23 M102).bind fun x104 =>
      some (x104, M102)
    else
      (gr x0 10 43).bind fun q106 =>
      (si q106 x2 x1 M).bind fun M108 =>
      h_Mo_weave_76 n x0 x1 (x2 + 1) M108
def h_Mo_weave_50 : Nat → Nat → Int32 → Int32 → fm_M → Option (Int32 × fm_M)
  | 0, _, _, _, _ => none
  | n + 1, x0, x1, x2, M =>
    (gi x0 10 9 M).bind fun x110 =>
    if x110 ≤ x2 then
      (pi x0 10 42 x1 M).bind fun M113 =>
      h_Mo_weave_76 100000 x0 x1 0 M113
    else
      (ck x0 10).bind fun _ =>
      (f_Mo_weaveOne x0 x2 M).bind fun M116 =>
      h_Mo_weave_50 n x0 x1 (x2 + 1) M116
def j_Mo_weave_36 (x0 : Nat) (x1 : Int32) (s0 : Nat) (s1 : Int32) (M : fm_M) : Option (Int32 × fm_M) :=
  (pi s0 10 0 s1 M).bind fun M118 =>
  (gi x0 10 0 M118).bind fun x120 =>
  if x120 ≤ 0 then
    h_Mo_weave_50 100000 x0 x1 0 M118
  else
    some (0, M118)
def j_Mo_weave_13 (x0 : Nat) (x1 : Int32) (s0 : Nat) (M : fm_M) : Option (Int32 × fm_M) :=
  j_Mo_weave_36 x0 x1 s0 1 M
def j_Mo_weave_31 (x0 : Nat) (x1 : Int32) (s0 : Nat) (M : fm_M) : Option (Int32 × fm_M) :=
  j_Mo_weave_36 x0 x1 s0 2 M
def f_Mo_weave (x0 : Nat) (x1 : Int32) (M : fm_M) : Option (Int32 × fm_M) :=
  if x1 < 50 then
    j_Mo_weave_13 x0 x1 x0 M
  else
    if x1 ≤ 100000 then
      (gi x0 10 11 M).bind fun x125 =>
      if x125 = 0 then
        (gi x0 10 9 M).bind fun x128 =>
        if x128 = 0 then
          j_Mo_weave_31 x0 x1 x0 M
        else
          j_Mo_weave_36 x0 x1 x0 0 M
      else
        j_Mo_weave_31 x0 x1 x0 M
    else
      j_Mo_weave_13 x0 x1 x0 M
set_option maxHeartbeats 4000000 in
set_option maxRecDepth 100000 in
theorem w_Mo_weave_76 {p : Program} {l : Launch} {e : Env} {s : State} {m : MethodId} {args : Array Value} {below : List Frame} {meth : Method} {c : Code} {G : fm_G} (C0 : fm_C p s m args meth c G (.code y_Mo_weave b_Mo_weave 3 (some .int)) "AllocationProfilerModel" b_Mo_weave 3 (some .int)) {v : Int32} {M' : fm_M} : ∀ (n : Nat) (x0 : Nat) (x1 : Int32) (x2 : Int32) {M : fm_M} {H : Heap} {locs : List Loc}, kP G M H → kS G s H locs → ∀ {ls : Array Slot}, lv_has ls 3 [(0, .ref (G.2.2 + x0)), (1, .int x1), (2, .int x2)] → h_Mo_weave_76 n x0 x1 x2 M = some (v, M') → W p l e rm_Mo_weave s m args below meth c H locs 0 0 (MQ below (fm_Q G 212 shF (some (.int v)) M') args s 0 0 (fm_A G.2.2)) (F0 m 76 ls []) := by
  have hx := C0.1
  have hb := C0.2.1
  have hown := C0.2.2.2.2.1
  have hts := C0.2.2.2.2.2.1
  intro n
  induction n with
  | zero =>
    intro x0 x1 x2 M H locs hP hS ls hl h
    exact nomatch h
  | succ n ih =>
    intro x0 x1 x2 M H locs hP hS ls hl h
    have h : (if 3 ≤ x2 then
        (pi x0 10 11 1 M).bind fun M102 =>
        (gi x0 10 23 M102).bind fun x104 =>
        some (x104, M102)
      else
        (gr x0 10 43).bind fun q106 =>
        (si q106 x2 x1 M).bind fun M108 =>
        h_Mo_weave_76 n x0 x1 (x2 + 1) M108) = some (v, M') := h
    refine lv_iload_n hx hb d_Mo_weave_76 rfl (lv_at hl 2 rfl) ?_
    refine lv_iconst (v := 3) hx hb d_Mo_weave_77 ic_3 ?_
    refine lv_icmp_ge (tgt := 94) hx hb d_Mo_weave_78 (by decide) (fun c101 => ?_) (fun c101 => ?_)
    · rw [if_pos c101] at h
      refine lv_aload_n hx hb d_Mo_weave_94 rfl (lv_at hl 0 rfl) ?_
      refine lv_iconst (v := 1) hx hb d_Mo_weave_95 ic_1 ?_
      obtain ⟨M102, e103, h⟩ := ob h
      refine k_pz C0 F_Mo_132p ik_10_11 hP hS (by decide) (by decide) e103 d_Mo_weave_96 (fun H locs hP hS => ?_)
      refine lv_aload_n hx hb d_Mo_weave_99 rfl (lv_at hl 0 rfl) ?_
      obtain ⟨x104, e105, h⟩ := ob h
      refine k_gi C0 F_Mo_192 ik_10_23 hP e105 d_Mo_weave_100 ?_
      cases h
      exact r_iret C0 hP hS d_Mo_weave_103
    · rw [if_neg c101] at h
      refine lv_aload_n hx hb d_Mo_weave_81 rfl (lv_at hl 0 rfl) ?_
      obtain ⟨q106, e107, h⟩ := ob h
      refine k_gr C0 F_Mo_110 hP e107 d_Mo_weave_82 ?_
      refine lv_iload_n hx hb d_Mo_weave_85 rfl (lv_at hl 2 rfl) ?_
      refine lv_iload_n hx hb d_Mo_weave_86 rfl (lv_at hl 1 rfl) ?_
      obtain ⟨M108, e109, h⟩ := ob h
      refine k_si C0 hP hS e109 d_Mo_weave_87 (fun H locs hP hS => ?_)
      refine lv_iinc (v := (x2 + 1)) (lv' := [(2, .int (x2 + 1)), (0, .ref (G.2.2 + x0)), (1, .int x1)]) hx hb d_Mo_weave_88 hl (k := 2) rfl (congrArg (fun z => x2 + z) ic_1) (by decide) rfl (fun ls hl => ?_)
      refine lv_goto (tgt := 76) hx hb d_Mo_weave_91 (by decide) ?_
      exact ih x0 x1 (x2 + 1) hP hS (lv_sub hl [1, 2, 0] rfl) h
set_option maxHeartbeats 4000000 in
set_option maxRecDepth 100000 in
theorem w_Mo_weave_50 {p : Program} {l : Launch} {e : Env} {s : State} {m : MethodId} {args : Array Value} {below : List Frame} {meth : Method} {c : Code} {G : fm_G} (C0 : fm_C p s m args meth c G (.code y_Mo_weave b_Mo_weave 3 (some .int)) "AllocationProfilerModel" b_Mo_weave 3 (some .int)) {v : Int32} {M' : fm_M} : ∀ (n : Nat) (x0 : Nat) (x1 : Int32) (x2 : Int32) {M : fm_M} {H : Heap} {locs : List Loc}, kP G M H → kS G s H locs → ∀ {ls : Array Slot}, lv_has ls 3 [(0, .ref (G.2.2 + x0)), (1, .int x1), (2, .int x2)] → h_Mo_weave_50 n x0 x1 x2 M = some (v, M') → W p l e rm_Mo_weave s m args below meth c H locs 0 0 (MQ below (fm_Q G 212 shF (some (.int v)) M') args s 0 0 (fm_A G.2.2)) (F0 m 50 ls []) := by
  have hx := C0.1
  have hb := C0.2.1
  have hown := C0.2.2.2.2.1
  have hts := C0.2.2.2.2.2.1
  intro n
  induction n with
  | zero =>
    intro x0 x1 x2 M H locs hP hS ls hl h
    exact nomatch h
  | succ n ih =>
    intro x0 x1 x2 M H locs hP hS ls hl h
    have h : ((gi x0 10 9 M).bind fun x110 =>
      if x110 ≤ x2 then
        (pi x0 10 42 x1 M).bind fun M113 =>
        h_Mo_weave_76 100000 x0 x1 0 M113
      else
        (ck x0 10).bind fun _ =>
        (f_Mo_weaveOne x0 x2 M).bind fun M116 =>
        h_Mo_weave_50 n x0 x1 (x2 + 1) M116) = some (v, M') := h
    refine lv_iload_n hx hb d_Mo_weave_50 rfl (lv_at hl 2 rfl) ?_
    refine lv_aload_n hx hb d_Mo_weave_51 rfl (lv_at hl 0 rfl) ?_
    obtain ⟨x110, e111, h⟩ := ob h
    refine k_gi C0 F_Mo_154 ik_10_9 hP e111 d_Mo_weave_52 ?_
    refine lv_icmp_ge (tgt := 69) hx hb d_Mo_weave_55 (by decide) (fun c112 => ?_) (fun c112 => ?_)
    · rw [if_pos c112] at h
      refine lv_aload_n hx hb d_Mo_weave_69 rfl (lv_at hl 0 rfl) ?_
      refine lv_iload_n hx hb d_Mo_weave_70 rfl (lv_at hl 1 rfl) ?_
      obtain ⟨M113, e114, h⟩ := ob h
      refine k_pi C0 F_Mo_199p ik_10_42 hP hS e114 d_Mo_weave_71 (fun H locs hP hS => ?_)
      refine lv_iconst (v := 0) hx hb d_Mo_weave_74 ic_0 ?_
      refine lv_istore_n (lv' := [(2, .int 0), (0, .ref (G.2.2 + x0)), (1, .int x1)]) hx hb d_Mo_weave_75 rfl hl (by decide) rfl (fun ls hl => ?_)
      exact w_Mo_weave_76 C0 100000 x0 x1 0 hP hS (lv_sub hl [1, 2, 0] rfl) h
    · rw [if_neg c112] at h
      refine lv_aload_n hx hb d_Mo_weave_58 rfl (lv_at hl 0 rfl) ?_
      refine lv_iload_n hx hb d_Mo_weave_59 rfl (lv_at hl 2 rfl) ?_
      obtain ⟨_, e115, h⟩ := ob h
      obtain ⟨M116, e117, h⟩ := ob h
      refine k_cVv C0 L_Mo_196 (As := [.int x2]) (c_Mo_weaveOne l G x0 x2 e117) ⟨rfl, rfl⟩ ⟨Nat.le_of_ble_eq_true rfl, Nat.le_of_ble_eq_true rfl⟩ hP hS (ck_of e115) ly_Mo rfl hl.1 rfl (Nat.le_of_ble_eq_true rfl) d_Mo_weave_60 ⟨Nat.zero_le _, Nat.zero_le _⟩ (fun H locs hP hS => ?_)
      refine lv_iinc (v := (x2 + 1)) (lv' := [(2, .int (x2 + 1)), (0, .ref (G.2.2 + x0)), (1, .int x1)]) hx hb d_Mo_weave_63 hl (k := 2) rfl (congrArg (fun z => x2 + z) ic_1) (by decide) rfl (fun ls hl => ?_)
      refine lv_goto (tgt := 50) hx hb d_Mo_weave_66 (by decide) ?_
      exact ih x0 x1 (x2 + 1) hP hS (lv_sub hl [1, 2, 0] rfl) h
set_option maxHeartbeats 4000000 in
set_option maxRecDepth 100000 in
theorem w_Mo_weave_36 {p : Program} {l : Launch} {e : Env} {s : State} {m : MethodId} {args : Array Value} {below : List Frame} {meth : Method} {c : Code} {G : fm_G} (C0 : fm_C p s m args meth c G (.code y_Mo_weave b_Mo_weave 3 (some .int)) "AllocationProfilerModel" b_Mo_weave 3 (some .int)) {v : Int32} {M' : fm_M} (x0 : Nat) (x1 : Int32) (s0 : Nat) (s1 : Int32) {M : fm_M} {H : Heap} {locs : List Loc} (hP : kP G M H) (hS : kS G s H locs) {ls : Array Slot} (hl : lv_has ls 3 [(0, .ref (G.2.2 + x0)), (1, .int x1)]) (h : j_Mo_weave_36 x0 x1 s0 s1 M = some (v, M')) : W p l e rm_Mo_weave s m args below meth c H locs 0 0 (MQ below (fm_Q G 212 shF (some (.int v)) M') args s 0 0 (fm_A G.2.2)) (F0 m 36 ls [.int s1, .ref (G.2.2 + s0)]) := by
  have hx := C0.1
  have hb := C0.2.1
  have hown := C0.2.2.2.2.1
  have hts := C0.2.2.2.2.2.1
  unfold j_Mo_weave_36 at h
  obtain ⟨M118, e119, h⟩ := ob h
  refine k_pi C0 F_Mo_122p ik_10_0 hP hS e119 d_Mo_weave_36 (fun H locs hP hS => ?_)
  refine lv_aload_n hx hb d_Mo_weave_39 rfl (lv_at hl 0 rfl) ?_
  obtain ⟨x120, e121, h⟩ := ob h
  refine k_gi C0 F_Mo_122 ik_10_0 hP e121 d_Mo_weave_40 ?_
  refine lv_if_le (tgt := 48) hx hb d_Mo_weave_43 (by decide) (fun c122 => ?_) (fun c122 => ?_)
  · rw [if_pos c122] at h
    refine lv_iconst (v := 0) hx hb d_Mo_weave_48 ic_0 ?_
    refine lv_istore_n (lv' := [(2, .int 0), (0, .ref (G.2.2 + x0)), (1, .int x1)]) hx hb d_Mo_weave_49 rfl hl (by decide) rfl (fun ls hl => ?_)
    exact w_Mo_weave_50 C0 100000 x0 x1 0 hP hS (lv_sub hl [1, 2, 0] rfl) h
  · rw [if_neg c122] at h
    refine lv_iconst (v := 0) hx hb d_Mo_weave_46 ic_0 ?_
    cases h
    exact r_iret C0 hP hS d_Mo_weave_47
set_option maxHeartbeats 4000000 in
set_option maxRecDepth 100000 in
theorem w_Mo_weave_13 {p : Program} {l : Launch} {e : Env} {s : State} {m : MethodId} {args : Array Value} {below : List Frame} {meth : Method} {c : Code} {G : fm_G} (C0 : fm_C p s m args meth c G (.code y_Mo_weave b_Mo_weave 3 (some .int)) "AllocationProfilerModel" b_Mo_weave 3 (some .int)) {v : Int32} {M' : fm_M} (x0 : Nat) (x1 : Int32) (s0 : Nat) {M : fm_M} {H : Heap} {locs : List Loc} (hP : kP G M H) (hS : kS G s H locs) {ls : Array Slot} (hl : lv_has ls 3 [(0, .ref (G.2.2 + x0)), (1, .int x1)]) (h : j_Mo_weave_13 x0 x1 s0 M = some (v, M')) : W p l e rm_Mo_weave s m args below meth c H locs 0 0 (MQ below (fm_Q G 212 shF (some (.int v)) M') args s 0 0 (fm_A G.2.2)) (F0 m 13 ls [.ref (G.2.2 + s0)]) := by
  have hx := C0.1
  have hb := C0.2.1
  have hown := C0.2.2.2.2.1
  have hts := C0.2.2.2.2.2.1
  unfold j_Mo_weave_13 at h
  refine lv_iconst (v := 1) hx hb d_Mo_weave_13 ic_1 ?_
  refine lv_goto (tgt := 36) hx hb d_Mo_weave_14 (by decide) ?_
  exact w_Mo_weave_36 C0 x0 x1 s0 1 hP hS (lv_sub hl [0, 1] rfl) h
set_option maxHeartbeats 4000000 in
set_option maxRecDepth 100000 in
theorem w_Mo_weave_31 {p : Program} {l : Launch} {e : Env} {s : State} {m : MethodId} {args : Array Value} {below : List Frame} {meth : Method} {c : Code} {G : fm_G} (C0 : fm_C p s m args meth c G (.code y_Mo_weave b_Mo_weave 3 (some .int)) "AllocationProfilerModel" b_Mo_weave 3 (some .int)) {v : Int32} {M' : fm_M} (x0 : Nat) (x1 : Int32) (s0 : Nat) {M : fm_M} {H : Heap} {locs : List Loc} (hP : kP G M H) (hS : kS G s H locs) {ls : Array Slot} (hl : lv_has ls 3 [(0, .ref (G.2.2 + x0)), (1, .int x1)]) (h : j_Mo_weave_31 x0 x1 s0 M = some (v, M')) : W p l e rm_Mo_weave s m args below meth c H locs 0 0 (MQ below (fm_Q G 212 shF (some (.int v)) M') args s 0 0 (fm_A G.2.2)) (F0 m 31 ls [.ref (G.2.2 + s0)]) := by
  have hx := C0.1
  have hb := C0.2.1
  have hown := C0.2.2.2.2.1
  have hts := C0.2.2.2.2.2.1
  unfold j_Mo_weave_31 at h
  refine lv_iconst (v := 2) hx hb d_Mo_weave_31 ic_2 ?_
  refine lv_goto (tgt := 36) hx hb d_Mo_weave_32 (by decide) ?_
  exact w_Mo_weave_36 C0 x0 x1 s0 2 hP hS (lv_sub hl [0, 1] rfl) h
set_option maxHeartbeats 4000000 in
set_option maxRecDepth 100000 in
theorem c_Mo_weave (l : Launch) (G : fm_G) (x0 : Nat) (x1 : Int32) {v : Int32} {M M' : fm_M} (h : f_Mo_weave x0 x1 M = some (v, M')) : kMet l y_Mo_weave b_Mo_weave 3 (some .int) rm_Mo_weave G M [.ref (G.2.2 + x0), .int x1] (some (.int v)) M' := by
  refine r_met (by decide) rfl (Nat.le_of_ble_eq_true rfl) (fun p e s m args below meth c C0 hP ls hl => ?_)
  have hx := C0.1
  have hb := C0.2.1
  have hown := C0.2.2.2.2.1
  have hts := C0.2.2.2.2.2.1
  have hl : lv_has ls 3 [(0, .ref (G.2.2 + x0)), (1, .int x1)] := hl
  have hS : va_S (fm_A G.2.2) s.heap s.heap [] := va_S.rf
  unfold f_Mo_weave at h
  refine lv_aload_n hx hb d_Mo_weave_0 rfl (lv_at hl 0 rfl) ?_
  refine lv_iload_n hx hb d_Mo_weave_1 rfl (lv_at hl 1 rfl) ?_
  refine lv_bipush (v := 50) hx hb d_Mo_weave_2 bp_50 ?_
  refine lv_icmp_lt (tgt := 13) hx hb d_Mo_weave_4 (by decide) (fun c123 => ?_) (fun c123 => ?_)
  · rw [if_pos c123] at h
    exact w_Mo_weave_13 C0 x0 x1 x0 hP hS (lv_sub hl [0, 1] rfl) h
  · rw [if_neg c123] at h
    refine lv_iload_n hx hb d_Mo_weave_7 rfl (lv_at hl 1 rfl) ?_
    refine lv_ldc (v := 100000) hx hb hown (hts _ (List.mem_cons_of_mem _ (gT_in 1205 (by decide +kernel) rfl))) d_Mo_weave_8 ?_
    refine lv_icmp_le (tgt := 17) hx hb d_Mo_weave_10 (by decide) (fun c124 => ?_) (fun c124 => ?_)
    · rw [if_pos c124] at h
      refine lv_aload_n hx hb d_Mo_weave_17 rfl (lv_at hl 0 rfl) ?_
      obtain ⟨x125, e126, h⟩ := ob h
      refine k_gi C0 F_Mo_132 ik_10_11 hP e126 d_Mo_weave_18 ?_
      refine lv_if_ne (tgt := 31) hx hb d_Mo_weave_21 (by decide) (fun c127 => ?_) (fun c127 => ?_)
      · rw [if_neg c127] at h
        exact w_Mo_weave_31 C0 x0 x1 x0 hP hS (lv_sub hl [0, 1] rfl) h
      · rw [if_pos c127] at h
        refine lv_aload_n hx hb d_Mo_weave_24 rfl (lv_at hl 0 rfl) ?_
        obtain ⟨x128, e129, h⟩ := ob h
        refine k_gi C0 F_Mo_154 ik_10_9 hP e129 d_Mo_weave_25 ?_
        refine lv_if_ne (tgt := 35) hx hb d_Mo_weave_28 (by decide) (fun c130 => ?_) (fun c130 => ?_)
        · rw [if_neg c130] at h
          refine lv_iconst (v := 0) hx hb d_Mo_weave_35 ic_0 ?_
          exact w_Mo_weave_36 C0 x0 x1 x0 0 hP hS (lv_sub hl [0, 1] rfl) h
        · rw [if_pos c130] at h
          exact w_Mo_weave_31 C0 x0 x1 x0 hP hS (lv_sub hl [0, 1] rfl) h
    · rw [if_neg c124] at h
      exact w_Mo_weave_13 C0 x0 x1 x0 hP hS (lv_sub hl [0, 1] rfl) h
/-! AllocationProfilerModel.length -/
def rm_Mo_length : Room := { frames := 1, cells := 0, slots := 0, locals := 21 }
theorem d_Mo_length_0 : decode b_Mo_length 0 = .ok (.aload_n 0, 1) := by decide +kernel
theorem d_Mo_length_1 : decode b_Mo_length 1 = .ok (.iconst 0, 1) := by decide +kernel
theorem d_Mo_length_2 : decode b_Mo_length 2 = .ok (.putfield 122, 3) := by decide +kernel
theorem d_Mo_length_5 : decode b_Mo_length 5 = .ok (.iload_n 1, 1) := by decide +kernel
theorem d_Mo_length_6 : decode b_Mo_length 6 = .ok (.aload_n 0, 1) := by decide +kernel
theorem d_Mo_length_7 : decode b_Mo_length 7 = .ok (.getfield 154, 3) := by decide +kernel
theorem d_Mo_length_10 : decode b_Mo_length 10 = .ok (.invokestatic 128, 3) := by decide +kernel
theorem d_Mo_length_13 : decode b_Mo_length 13 = .ok (.ifCond .eq 9, 3) := by decide +kernel
theorem d_Mo_length_16 : decode b_Mo_length 16 = .ok (.aload_n 0, 1) := by decide +kernel
theorem d_Mo_length_17 : decode b_Mo_length 17 = .ok (.iconst 1, 1) := by decide +kernel
theorem d_Mo_length_18 : decode b_Mo_length 18 = .ok (.invokevirtual 140, 3) := by decide +kernel
theorem d_Mo_length_21 : decode b_Mo_length 21 = .ok (.ireturn, 1) := by decide +kernel
theorem d_Mo_length_22 : decode b_Mo_length 22 = .ok (.iload_n 2, 1) := by decide +kernel
theorem d_Mo_length_23 : decode b_Mo_length 23 = .ok (.ifCond .eq 12, 3) := by decide +kernel
theorem d_Mo_length_26 : decode b_Mo_length 26 = .ok (.aload_n 0, 1) := by decide +kernel
theorem d_Mo_length_27 : decode b_Mo_length 27 = .ok (.getfield 48, 3) := by decide +kernel
theorem d_Mo_length_30 : decode b_Mo_length 30 = .ok (.iload_n 1, 1) := by decide +kernel
theorem d_Mo_length_31 : decode b_Mo_length 31 = .ok (.iaload, 1) := by decide +kernel
theorem d_Mo_length_32 : decode b_Mo_length 32 = .ok (.goto 9, 3) := by decide +kernel
theorem d_Mo_length_35 : decode b_Mo_length 35 = .ok (.aload_n 0, 1) := by decide +kernel
theorem d_Mo_length_36 : decode b_Mo_length 36 = .ok (.getfield 33, 3) := by decide +kernel
theorem d_Mo_length_39 : decode b_Mo_length 39 = .ok (.iload_n 1, 1) := by decide +kernel
theorem d_Mo_length_40 : decode b_Mo_length 40 = .ok (.iaload, 1) := by decide +kernel
theorem d_Mo_length_41 : decode b_Mo_length 41 = .ok (.ireturn, 1) := by decide +kernel
def f_Mo_length (x0 : Nat) (x1 : Int32) (x2 : Int32) (M : fm_M) : Option (Int32 × fm_M) :=
  (pi x0 10 0 0 M).bind fun M101 =>
  (gi x0 10 9 M101).bind fun x103 =>
  bd (f_Mo_out x1 x103 M101) fun x107 M105 =>
  if x107 = 0 then
    if x2 = 0 then
      (gr x0 10 13).bind fun q110 =>
      (ai q110 x1 M105).bind fun x112 =>
      some (x112, M105)
    else
      (gr x0 10 18).bind fun q114 =>
      (ai q114 x1 M105).bind fun x116 =>
      some (x116, M105)
  else
    (ck x0 10).bind fun _ =>
    bd (f_Mo_fail x0 1 M105) fun x121 M119 =>
    some (x121, M119)
set_option maxHeartbeats 4000000 in
set_option maxRecDepth 100000 in
theorem c_Mo_length (l : Launch) (G : fm_G) (x0 : Nat) (x1 : Int32) (x2 : Int32) {v : Int32} {M M' : fm_M} (h : f_Mo_length x0 x1 x2 M = some (v, M')) : kMet l y_Mo_length b_Mo_length 3 (some .int) rm_Mo_length G M [.ref (G.2.2 + x0), .int x1, .int x2] (some (.int v)) M' := by
  refine r_met (by decide) rfl (Nat.le_of_ble_eq_true rfl) (fun p e s m args below meth c C0 hP ls hl => ?_)
  have hx := C0.1
  have hb := C0.2.1
  have hl : lv_has ls 3 [(0, .ref (G.2.2 + x0)), (1, .int x1), (2, .int x2)] := hl
  have hS : va_S (fm_A G.2.2) s.heap s.heap [] := va_S.rf
  unfold f_Mo_length at h
  refine lv_aload_n hx hb d_Mo_length_0 rfl (lv_at hl 0 rfl) ?_
  refine lv_iconst (v := 0) hx hb d_Mo_length_1 ic_0 ?_
  obtain ⟨M101, e102, h⟩ := ob h
  refine k_pi C0 F_Mo_122p ik_10_0 hP hS e102 d_Mo_length_2 (fun H locs hP hS => ?_)
  refine lv_iload_n hx hb d_Mo_length_5 rfl (lv_at hl 1 rfl) ?_
  refine lv_aload_n hx hb d_Mo_length_6 rfl (lv_at hl 0 rfl) ?_
  obtain ⟨x103, e104, h⟩ := ob h
  refine k_gi C0 F_Mo_154 ik_10_9 hP e104 d_Mo_length_7 ?_
  obtain ⟨x107, M105, e106, h⟩ := ob2 h
  refine k_cS C0 L_Mo_128 (As := [.int x1, .int x103]) (c_Mo_out l G x1 x103 e106) ⟨rfl, rfl⟩ ⟨Nat.le_of_ble_eq_true rfl, Nat.le_of_ble_eq_true rfl⟩ hP hS rfl hl.1 rfl (Nat.le_of_ble_eq_true rfl) d_Mo_length_10 ⟨Nat.zero_le _, Nat.zero_le _⟩ (fun H locs hP hS => ?_)
  refine lv_if_eq (tgt := 22) hx hb d_Mo_length_13 (by decide) (fun c108 => ?_) (fun c108 => ?_)
  · rw [if_pos c108] at h
    refine lv_iload_n hx hb d_Mo_length_22 rfl (lv_at hl 2 rfl) ?_
    refine lv_if_eq (tgt := 35) hx hb d_Mo_length_23 (by decide) (fun c109 => ?_) (fun c109 => ?_)
    · rw [if_pos c109] at h
      refine lv_aload_n hx hb d_Mo_length_35 rfl (lv_at hl 0 rfl) ?_
      obtain ⟨q110, e111, h⟩ := ob h
      refine k_gr C0 F_Mo_33 hP e111 d_Mo_length_36 ?_
      refine lv_iload_n hx hb d_Mo_length_39 rfl (lv_at hl 1 rfl) ?_
      obtain ⟨x112, e113, h⟩ := ob h
      refine k_ai C0 hP e113 d_Mo_length_40 ?_
      cases h
      exact r_iret C0 hP hS d_Mo_length_41
    · rw [if_neg c109] at h
      refine lv_aload_n hx hb d_Mo_length_26 rfl (lv_at hl 0 rfl) ?_
      obtain ⟨q114, e115, h⟩ := ob h
      refine k_gr C0 F_Mo_48 hP e115 d_Mo_length_27 ?_
      refine lv_iload_n hx hb d_Mo_length_30 rfl (lv_at hl 1 rfl) ?_
      obtain ⟨x116, e117, h⟩ := ob h
      refine k_ai C0 hP e117 d_Mo_length_31 ?_
      refine lv_goto (tgt := 41) hx hb d_Mo_length_32 (by decide) ?_
      cases h
      exact r_iret C0 hP hS d_Mo_length_41
  · rw [if_neg c108] at h
    refine lv_aload_n hx hb d_Mo_length_16 rfl (lv_at hl 0 rfl) ?_
    refine lv_iconst (v := 1) hx hb d_Mo_length_17 ic_1 ?_
    obtain ⟨_, e118, h⟩ := ob h
    obtain ⟨x121, M119, e120, h⟩ := ob2 h
    refine k_cV C0 L_Mo_140 (As := [.int 1]) (c_Mo_fail l G x0 1 e120) ⟨rfl, rfl⟩ ⟨Nat.le_of_ble_eq_true rfl, Nat.le_of_ble_eq_true rfl⟩ hP hS (ck_of e118) ly_Mo rfl hl.1 rfl (Nat.le_of_ble_eq_true rfl) d_Mo_length_18 ⟨Nat.zero_le _, Nat.zero_le _⟩ (fun H locs hP hS => ?_)
    cases h
    exact r_iret C0 hP hS d_Mo_length_21
/-! AllocationProfilerModel.code -/
def rm_Mo_code : Room := { frames := 1, cells := 0, slots := 0, locals := 21 }
theorem d_Mo_code_0 : decode b_Mo_code 0 = .ok (.aload_n 0, 1) := by decide +kernel
theorem d_Mo_code_1 : decode b_Mo_code 1 = .ok (.iconst 0, 1) := by decide +kernel
theorem d_Mo_code_2 : decode b_Mo_code 2 = .ok (.putfield 122, 3) := by decide +kernel
theorem d_Mo_code_5 : decode b_Mo_code 5 = .ok (.iload_n 1, 1) := by decide +kernel
theorem d_Mo_code_6 : decode b_Mo_code 6 = .ok (.aload_n 0, 1) := by decide +kernel
theorem d_Mo_code_7 : decode b_Mo_code 7 = .ok (.getfield 154, 3) := by decide +kernel
theorem d_Mo_code_10 : decode b_Mo_code 10 = .ok (.invokestatic 128, 3) := by decide +kernel
theorem d_Mo_code_13 : decode b_Mo_code 13 = .ok (.ifCond .ne 11, 3) := by decide +kernel
theorem d_Mo_code_16 : decode b_Mo_code 16 = .ok (.iload_n 3, 1) := by decide +kernel
theorem d_Mo_code_17 : decode b_Mo_code 17 = .ok (.iconst 5, 1) := by decide +kernel
theorem d_Mo_code_18 : decode b_Mo_code 18 = .ok (.invokestatic 128, 3) := by decide +kernel
theorem d_Mo_code_21 : decode b_Mo_code 21 = .ok (.ifCond .eq 9, 3) := by decide +kernel
theorem d_Mo_code_24 : decode b_Mo_code 24 = .ok (.aload_n 0, 1) := by decide +kernel
theorem d_Mo_code_25 : decode b_Mo_code 25 = .ok (.iconst 1, 1) := by decide +kernel
theorem d_Mo_code_26 : decode b_Mo_code 26 = .ok (.invokevirtual 140, 3) := by decide +kernel
theorem d_Mo_code_29 : decode b_Mo_code 29 = .ok (.ireturn, 1) := by decide +kernel
theorem d_Mo_code_30 : decode b_Mo_code 30 = .ok (.iload_n 2, 1) := by decide +kernel
theorem d_Mo_code_31 : decode b_Mo_code 31 = .ok (.iload_n 3, 1) := by decide +kernel
theorem d_Mo_code_32 : decode b_Mo_code 32 = .ok (.iconst 2, 1) := by decide +kernel
theorem d_Mo_code_33 : decode b_Mo_code 33 = .ok (.if_icmp .ge 12, 3) := by decide +kernel
theorem d_Mo_code_36 : decode b_Mo_code 36 = .ok (.aload_n 0, 1) := by decide +kernel
theorem d_Mo_code_37 : decode b_Mo_code 37 = .ok (.getfield 48, 3) := by decide +kernel
theorem d_Mo_code_40 : decode b_Mo_code 40 = .ok (.iload_n 1, 1) := by decide +kernel
theorem d_Mo_code_41 : decode b_Mo_code 41 = .ok (.iaload, 1) := by decide +kernel
theorem d_Mo_code_42 : decode b_Mo_code 42 = .ok (.goto 9, 3) := by decide +kernel
theorem d_Mo_code_45 : decode b_Mo_code 45 = .ok (.aload_n 0, 1) := by decide +kernel
theorem d_Mo_code_46 : decode b_Mo_code 46 = .ok (.getfield 42, 3) := by decide +kernel
theorem d_Mo_code_49 : decode b_Mo_code 49 = .ok (.iload_n 1, 1) := by decide +kernel
theorem d_Mo_code_50 : decode b_Mo_code 50 = .ok (.iaload, 1) := by decide +kernel
theorem d_Mo_code_51 : decode b_Mo_code 51 = .ok (.invokestatic 128, 3) := by decide +kernel
theorem d_Mo_code_54 : decode b_Mo_code 54 = .ok (.ifCond .eq 9, 3) := by decide +kernel
theorem d_Mo_code_57 : decode b_Mo_code 57 = .ok (.aload_n 0, 1) := by decide +kernel
theorem d_Mo_code_58 : decode b_Mo_code 58 = .ok (.iconst 2, 1) := by decide +kernel
theorem d_Mo_code_59 : decode b_Mo_code 59 = .ok (.invokevirtual 140, 3) := by decide +kernel
theorem d_Mo_code_62 : decode b_Mo_code 62 = .ok (.ireturn, 1) := by decide +kernel
theorem d_Mo_code_63 : decode b_Mo_code 63 = .ok (.iload_n 3, 1) := by decide +kernel
theorem d_Mo_code_64 : decode b_Mo_code 64 = .ok (.iconst 2, 1) := by decide +kernel
theorem d_Mo_code_65 : decode b_Mo_code 65 = .ok (.if_icmp .ge 33, 3) := by decide +kernel
theorem d_Mo_code_68 : decode b_Mo_code 68 = .ok (.iload_n 3, 1) := by decide +kernel
theorem d_Mo_code_69 : decode b_Mo_code 69 = .ok (.ifCond .ne 17, 3) := by decide +kernel
theorem d_Mo_code_72 : decode b_Mo_code 72 = .ok (.aload_n 0, 1) := by decide +kernel
theorem d_Mo_code_73 : decode b_Mo_code 73 = .ok (.getfield 51, 3) := by decide +kernel
theorem d_Mo_code_76 : decode b_Mo_code 76 = .ok (.bipush 28, 2) := by decide +kernel
theorem d_Mo_code_78 : decode b_Mo_code 78 = .ok (.iload_n 1, 1) := by decide +kernel
theorem d_Mo_code_79 : decode b_Mo_code 79 = .ok (.imul, 1) := by decide +kernel
theorem d_Mo_code_80 : decode b_Mo_code 80 = .ok (.iload_n 2, 1) := by decide +kernel
theorem d_Mo_code_81 : decode b_Mo_code 81 = .ok (.iadd, 1) := by decide +kernel
theorem d_Mo_code_82 : decode b_Mo_code 82 = .ok (.iaload, 1) := by decide +kernel
theorem d_Mo_code_83 : decode b_Mo_code 83 = .ok (.goto 14, 3) := by decide +kernel
theorem d_Mo_code_86 : decode b_Mo_code 86 = .ok (.aload_n 0, 1) := by decide +kernel
theorem d_Mo_code_87 : decode b_Mo_code 87 = .ok (.getfield 54, 3) := by decide +kernel
theorem d_Mo_code_90 : decode b_Mo_code 90 = .ok (.bipush 28, 2) := by decide +kernel
theorem d_Mo_code_92 : decode b_Mo_code 92 = .ok (.iload_n 1, 1) := by decide +kernel
theorem d_Mo_code_93 : decode b_Mo_code 93 = .ok (.imul, 1) := by decide +kernel
theorem d_Mo_code_94 : decode b_Mo_code 94 = .ok (.iload_n 2, 1) := by decide +kernel
theorem d_Mo_code_95 : decode b_Mo_code 95 = .ok (.iadd, 1) := by decide +kernel
theorem d_Mo_code_96 : decode b_Mo_code 96 = .ok (.iaload, 1) := by decide +kernel
theorem d_Mo_code_97 : decode b_Mo_code 97 = .ok (.ireturn, 1) := by decide +kernel
theorem d_Mo_code_98 : decode b_Mo_code 98 = .ok (.aload_n 0, 1) := by decide +kernel
theorem d_Mo_code_99 : decode b_Mo_code 99 = .ok (.getfield 57, 3) := by decide +kernel
theorem d_Mo_code_102 : decode b_Mo_code 102 = .ok (.bipush 6, 2) := by decide +kernel
theorem d_Mo_code_104 : decode b_Mo_code 104 = .ok (.iload_n 1, 1) := by decide +kernel
theorem d_Mo_code_105 : decode b_Mo_code 105 = .ok (.imul, 1) := by decide +kernel
theorem d_Mo_code_106 : decode b_Mo_code 106 = .ok (.iconst 3, 1) := by decide +kernel
theorem d_Mo_code_107 : decode b_Mo_code 107 = .ok (.iload_n 2, 1) := by decide +kernel
theorem d_Mo_code_108 : decode b_Mo_code 108 = .ok (.imul, 1) := by decide +kernel
theorem d_Mo_code_109 : decode b_Mo_code 109 = .ok (.iadd, 1) := by decide +kernel
theorem d_Mo_code_110 : decode b_Mo_code 110 = .ok (.iload_n 3, 1) := by decide +kernel
theorem d_Mo_code_111 : decode b_Mo_code 111 = .ok (.iadd, 1) := by decide +kernel
theorem d_Mo_code_112 : decode b_Mo_code 112 = .ok (.iconst 2, 1) := by decide +kernel
theorem d_Mo_code_113 : decode b_Mo_code 113 = .ok (.isub, 1) := by decide +kernel
theorem d_Mo_code_114 : decode b_Mo_code 114 = .ok (.iaload, 1) := by decide +kernel
theorem d_Mo_code_115 : decode b_Mo_code 115 = .ok (.ireturn, 1) := by decide +kernel
def j_Mo_code_24 (x0 : Nat) (M : fm_M) : Option (Int32 × fm_M) :=
  (ck x0 10).bind fun _ =>
  bd (f_Mo_fail x0 1 M) fun x104 M102 =>
  some (x104, M102)
def j_Mo_code_51 (x0 : Nat) (x1 : Int32) (x2 : Int32) (x3 : Int32) (s0 : Int32) (s1 : Int32) (M : fm_M) : Option (Int32 × fm_M) :=
  bd (f_Mo_out s0 s1 M) fun x107 M105 =>
  if x107 = 0 then
    if 2 ≤ x3 then
      (gr x0 10 21).bind fun q110 =>
      (ai q110 ((((6 * x1) + (3 * x2)) + x3) - 2) M105).bind fun x112 =>
      some (x112, M105)
    else
      if x3 = 0 then
        (gr x0 10 19).bind fun q119 =>
        (ai q119 ((28 * x1) + x2) M105).bind fun x121 =>
        some (x121, M105)
      else
        (gr x0 10 20).bind fun q115 =>
        (ai q115 ((28 * x1) + x2) M105).bind fun x117 =>
        some (x117, M105)
  else
    (ck x0 10).bind fun _ =>
    bd (f_Mo_fail x0 2 M105) fun x126 M124 =>
    some (x126, M124)
def f_Mo_code (x0 : Nat) (x1 : Int32) (x2 : Int32) (x3 : Int32) (M : fm_M) : Option (Int32 × fm_M) :=
  (pi x0 10 0 0 M).bind fun M127 =>
  (gi x0 10 9 M127).bind fun x129 =>
  bd (f_Mo_out x1 x129 M127) fun x133 M131 =>
  if x133 = 0 then
    bd (f_Mo_out x3 5 M131) fun x137 M135 =>
    if x137 = 0 then
      if 2 ≤ x3 then
        (gr x0 10 16).bind fun q140 =>
        (ai q140 x1 M135).bind fun x142 =>
        j_Mo_code_51 x0 x1 x2 x3 x2 x142 M135
      else
        (gr x0 10 18).bind fun q144 =>
        (ai q144 x1 M135).bind fun x146 =>
        j_Mo_code_51 x0 x1 x2 x3 x2 x146 M135
    else
      j_Mo_code_24 x0 M135
  else
    j_Mo_code_24 x0 M131
set_option maxHeartbeats 4000000 in
set_option maxRecDepth 100000 in
theorem w_Mo_code_24 {p : Program} {l : Launch} {e : Env} {s : State} {m : MethodId} {args : Array Value} {below : List Frame} {meth : Method} {c : Code} {G : fm_G} (C0 : fm_C p s m args meth c G (.code y_Mo_code b_Mo_code 4 (some .int)) "AllocationProfilerModel" b_Mo_code 4 (some .int)) {v : Int32} {M' : fm_M} (x0 : Nat) {M : fm_M} {H : Heap} {locs : List Loc} (hP : kP G M H) (hS : kS G s H locs) {ls : Array Slot} (hl : lv_has ls 4 [(0, .ref (G.2.2 + x0))]) (h : j_Mo_code_24 x0 M = some (v, M')) : W p l e rm_Mo_code s m args below meth c H locs 0 0 (MQ below (fm_Q G 212 shF (some (.int v)) M') args s 0 0 (fm_A G.2.2)) (F0 m 24 ls []) := by
  have hx := C0.1
  have hb := C0.2.1
  unfold j_Mo_code_24 at h
  refine lv_aload_n hx hb d_Mo_code_24 rfl (lv_at hl 0 rfl) ?_
  refine lv_iconst (v := 1) hx hb d_Mo_code_25 ic_1 ?_
  obtain ⟨_, e101, h⟩ := ob h
  obtain ⟨x104, M102, e103, h⟩ := ob2 h
  refine k_cV C0 L_Mo_140 (As := [.int 1]) (c_Mo_fail l G x0 1 e103) ⟨rfl, rfl⟩ ⟨Nat.le_of_ble_eq_true rfl, Nat.le_of_ble_eq_true rfl⟩ hP hS (ck_of e101) ly_Mo rfl hl.1 rfl (Nat.le_of_ble_eq_true rfl) d_Mo_code_26 ⟨Nat.zero_le _, Nat.zero_le _⟩ (fun H locs hP hS => ?_)
  cases h
  exact r_iret C0 hP hS d_Mo_code_29
set_option maxHeartbeats 4000000 in
set_option maxRecDepth 100000 in
theorem w_Mo_code_51 {p : Program} {l : Launch} {e : Env} {s : State} {m : MethodId} {args : Array Value} {below : List Frame} {meth : Method} {c : Code} {G : fm_G} (C0 : fm_C p s m args meth c G (.code y_Mo_code b_Mo_code 4 (some .int)) "AllocationProfilerModel" b_Mo_code 4 (some .int)) {v : Int32} {M' : fm_M} (x0 : Nat) (x1 : Int32) (x2 : Int32) (x3 : Int32) (s0 : Int32) (s1 : Int32) {M : fm_M} {H : Heap} {locs : List Loc} (hP : kP G M H) (hS : kS G s H locs) {ls : Array Slot} (hl : lv_has ls 4 [(0, .ref (G.2.2 + x0)), (1, .int x1), (2, .int x2), (3, .int x3)]) (h : j_Mo_code_51 x0 x1 x2 x3 s0 s1 M = some (v, M')) : W p l e rm_Mo_code s m args below meth c H locs 0 0 (MQ below (fm_Q G 212 shF (some (.int v)) M') args s 0 0 (fm_A G.2.2)) (F0 m 51 ls [.int s1, .int s0]) := by
  have hx := C0.1
  have hb := C0.2.1
  unfold j_Mo_code_51 at h
  obtain ⟨x107, M105, e106, h⟩ := ob2 h
  refine k_cS C0 L_Mo_128 (As := [.int s0, .int s1]) (c_Mo_out l G s0 s1 e106) ⟨rfl, rfl⟩ ⟨Nat.le_of_ble_eq_true rfl, Nat.le_of_ble_eq_true rfl⟩ hP hS rfl hl.1 rfl (Nat.le_of_ble_eq_true rfl) d_Mo_code_51 ⟨Nat.zero_le _, Nat.zero_le _⟩ (fun H locs hP hS => ?_)
  refine lv_if_eq (tgt := 63) hx hb d_Mo_code_54 (by decide) (fun c108 => ?_) (fun c108 => ?_)
  · rw [if_pos c108] at h
    refine lv_iload_n hx hb d_Mo_code_63 rfl (lv_at hl 3 rfl) ?_
    refine lv_iconst (v := 2) hx hb d_Mo_code_64 ic_2 ?_
    refine lv_icmp_ge (tgt := 98) hx hb d_Mo_code_65 (by decide) (fun c109 => ?_) (fun c109 => ?_)
    · rw [if_pos c109] at h
      refine lv_aload_n hx hb d_Mo_code_98 rfl (lv_at hl 0 rfl) ?_
      obtain ⟨q110, e111, h⟩ := ob h
      refine k_gr C0 F_Mo_57 hP e111 d_Mo_code_99 ?_
      refine lv_bipush (v := 6) hx hb d_Mo_code_102 bp_6 ?_
      refine lv_iload_n hx hb d_Mo_code_104 rfl (lv_at hl 1 rfl) ?_
      refine lv_imul hx hb d_Mo_code_105 ?_
      refine lv_iconst (v := 3) hx hb d_Mo_code_106 ic_3 ?_
      refine lv_iload_n hx hb d_Mo_code_107 rfl (lv_at hl 2 rfl) ?_
      refine lv_imul hx hb d_Mo_code_108 ?_
      refine lv_iadd hx hb d_Mo_code_109 ?_
      refine lv_iload_n hx hb d_Mo_code_110 rfl (lv_at hl 3 rfl) ?_
      refine lv_iadd hx hb d_Mo_code_111 ?_
      refine lv_iconst (v := 2) hx hb d_Mo_code_112 ic_2 ?_
      refine lv_isub hx hb d_Mo_code_113 ?_
      obtain ⟨x112, e113, h⟩ := ob h
      refine k_ai C0 hP e113 d_Mo_code_114 ?_
      cases h
      exact r_iret C0 hP hS d_Mo_code_115
    · rw [if_neg c109] at h
      refine lv_iload_n hx hb d_Mo_code_68 rfl (lv_at hl 3 rfl) ?_
      refine lv_if_ne (tgt := 86) hx hb d_Mo_code_69 (by decide) (fun c114 => ?_) (fun c114 => ?_)
      · rw [if_neg c114] at h
        refine lv_aload_n hx hb d_Mo_code_86 rfl (lv_at hl 0 rfl) ?_
        obtain ⟨q115, e116, h⟩ := ob h
        refine k_gr C0 F_Mo_54 hP e116 d_Mo_code_87 ?_
        refine lv_bipush (v := 28) hx hb d_Mo_code_90 bp_28 ?_
        refine lv_iload_n hx hb d_Mo_code_92 rfl (lv_at hl 1 rfl) ?_
        refine lv_imul hx hb d_Mo_code_93 ?_
        refine lv_iload_n hx hb d_Mo_code_94 rfl (lv_at hl 2 rfl) ?_
        refine lv_iadd hx hb d_Mo_code_95 ?_
        obtain ⟨x117, e118, h⟩ := ob h
        refine k_ai C0 hP e118 d_Mo_code_96 ?_
        cases h
        exact r_iret C0 hP hS d_Mo_code_97
      · rw [if_pos c114] at h
        refine lv_aload_n hx hb d_Mo_code_72 rfl (lv_at hl 0 rfl) ?_
        obtain ⟨q119, e120, h⟩ := ob h
        refine k_gr C0 F_Mo_51 hP e120 d_Mo_code_73 ?_
        refine lv_bipush (v := 28) hx hb d_Mo_code_76 bp_28 ?_
        refine lv_iload_n hx hb d_Mo_code_78 rfl (lv_at hl 1 rfl) ?_
        refine lv_imul hx hb d_Mo_code_79 ?_
        refine lv_iload_n hx hb d_Mo_code_80 rfl (lv_at hl 2 rfl) ?_
        refine lv_iadd hx hb d_Mo_code_81 ?_
        obtain ⟨x121, e122, h⟩ := ob h
        refine k_ai C0 hP e122 d_Mo_code_82 ?_
        refine lv_goto (tgt := 97) hx hb d_Mo_code_83 (by decide) ?_
        cases h
        exact r_iret C0 hP hS d_Mo_code_97
  · rw [if_neg c108] at h
    refine lv_aload_n hx hb d_Mo_code_57 rfl (lv_at hl 0 rfl) ?_
    refine lv_iconst (v := 2) hx hb d_Mo_code_58 ic_2 ?_
    obtain ⟨_, e123, h⟩ := ob h
    obtain ⟨x126, M124, e125, h⟩ := ob2 h
    refine k_cV C0 L_Mo_140 (As := [.int 2]) (c_Mo_fail l G x0 2 e125) ⟨rfl, rfl⟩ ⟨Nat.le_of_ble_eq_true rfl, Nat.le_of_ble_eq_true rfl⟩ hP hS (ck_of e123) ly_Mo rfl hl.1 rfl (Nat.le_of_ble_eq_true rfl) d_Mo_code_59 ⟨Nat.zero_le _, Nat.zero_le _⟩ (fun H locs hP hS => ?_)
    cases h
    exact r_iret C0 hP hS d_Mo_code_62
set_option maxHeartbeats 4000000 in
set_option maxRecDepth 100000 in
theorem c_Mo_code (l : Launch) (G : fm_G) (x0 : Nat) (x1 : Int32) (x2 : Int32) (x3 : Int32) {v : Int32} {M M' : fm_M} (h : f_Mo_code x0 x1 x2 x3 M = some (v, M')) : kMet l y_Mo_code b_Mo_code 4 (some .int) rm_Mo_code G M [.ref (G.2.2 + x0), .int x1, .int x2, .int x3] (some (.int v)) M' := by
  refine r_met (by decide) rfl (Nat.le_of_ble_eq_true rfl) (fun p e s m args below meth c C0 hP ls hl => ?_)
  have hx := C0.1
  have hb := C0.2.1
  have hl : lv_has ls 4 [(0, .ref (G.2.2 + x0)), (1, .int x1), (2, .int x2), (3, .int x3)] := hl
  have hS : va_S (fm_A G.2.2) s.heap s.heap [] := va_S.rf
  unfold f_Mo_code at h
  refine lv_aload_n hx hb d_Mo_code_0 rfl (lv_at hl 0 rfl) ?_
  refine lv_iconst (v := 0) hx hb d_Mo_code_1 ic_0 ?_
  obtain ⟨M127, e128, h⟩ := ob h
  refine k_pi C0 F_Mo_122p ik_10_0 hP hS e128 d_Mo_code_2 (fun H locs hP hS => ?_)
  refine lv_iload_n hx hb d_Mo_code_5 rfl (lv_at hl 1 rfl) ?_
  refine lv_aload_n hx hb d_Mo_code_6 rfl (lv_at hl 0 rfl) ?_
  obtain ⟨x129, e130, h⟩ := ob h
  refine k_gi C0 F_Mo_154 ik_10_9 hP e130 d_Mo_code_7 ?_
  obtain ⟨x133, M131, e132, h⟩ := ob2 h
  refine k_cS C0 L_Mo_128 (As := [.int x1, .int x129]) (c_Mo_out l G x1 x129 e132) ⟨rfl, rfl⟩ ⟨Nat.le_of_ble_eq_true rfl, Nat.le_of_ble_eq_true rfl⟩ hP hS rfl hl.1 rfl (Nat.le_of_ble_eq_true rfl) d_Mo_code_10 ⟨Nat.zero_le _, Nat.zero_le _⟩ (fun H locs hP hS => ?_)
  refine lv_if_ne (tgt := 24) hx hb d_Mo_code_13 (by decide) (fun c134 => ?_) (fun c134 => ?_)
  · rw [if_neg c134] at h
    exact w_Mo_code_24 C0 x0 hP hS (lv_sub hl [0] rfl) h
  · rw [if_pos c134] at h
    refine lv_iload_n hx hb d_Mo_code_16 rfl (lv_at hl 3 rfl) ?_
    refine lv_iconst (v := 5) hx hb d_Mo_code_17 ic_5 ?_
    obtain ⟨x137, M135, e136, h⟩ := ob2 h
    refine k_cS C0 L_Mo_128 (As := [.int x3, .int 5]) (c_Mo_out l G x3 5 e136) ⟨rfl, rfl⟩ ⟨Nat.le_of_ble_eq_true rfl, Nat.le_of_ble_eq_true rfl⟩ hP hS rfl hl.1 rfl (Nat.le_of_ble_eq_true rfl) d_Mo_code_18 ⟨Nat.zero_le _, Nat.zero_le _⟩ (fun H locs hP hS => ?_)
    refine lv_if_eq (tgt := 30) hx hb d_Mo_code_21 (by decide) (fun c138 => ?_) (fun c138 => ?_)
    · rw [if_pos c138] at h
      refine lv_iload_n hx hb d_Mo_code_30 rfl (lv_at hl 2 rfl) ?_
      refine lv_iload_n hx hb d_Mo_code_31 rfl (lv_at hl 3 rfl) ?_
      refine lv_iconst (v := 2) hx hb d_Mo_code_32 ic_2 ?_
      refine lv_icmp_ge (tgt := 45) hx hb d_Mo_code_33 (by decide) (fun c139 => ?_) (fun c139 => ?_)
      · rw [if_pos c139] at h
        refine lv_aload_n hx hb d_Mo_code_45 rfl (lv_at hl 0 rfl) ?_
        obtain ⟨q140, e141, h⟩ := ob h
        refine k_gr C0 F_Mo_42 hP e141 d_Mo_code_46 ?_
        refine lv_iload_n hx hb d_Mo_code_49 rfl (lv_at hl 1 rfl) ?_
        obtain ⟨x142, e143, h⟩ := ob h
        refine k_ai C0 hP e143 d_Mo_code_50 ?_
        exact w_Mo_code_51 C0 x0 x1 x2 x3 x2 x142 hP hS (lv_sub hl [0, 1, 2, 3] rfl) h
      · rw [if_neg c139] at h
        refine lv_aload_n hx hb d_Mo_code_36 rfl (lv_at hl 0 rfl) ?_
        obtain ⟨q144, e145, h⟩ := ob h
        refine k_gr C0 F_Mo_48 hP e145 d_Mo_code_37 ?_
        refine lv_iload_n hx hb d_Mo_code_40 rfl (lv_at hl 1 rfl) ?_
        obtain ⟨x146, e147, h⟩ := ob h
        refine k_ai C0 hP e147 d_Mo_code_41 ?_
        refine lv_goto (tgt := 51) hx hb d_Mo_code_42 (by decide) ?_
        exact w_Mo_code_51 C0 x0 x1 x2 x3 x2 x146 hP hS (lv_sub hl [0, 1, 2, 3] rfl) h
    · rw [if_neg c138] at h
      exact w_Mo_code_24 C0 x0 hP hS (lv_sub hl [0] rfl) h
/-! AllocationProfilerModel.site -/
def rm_Mo_site : Room := { frames := 1, cells := 0, slots := 0, locals := 21 }
theorem d_Mo_site_0 : decode b_Mo_site 0 = .ok (.aload_n 0, 1) := by decide +kernel
theorem d_Mo_site_1 : decode b_Mo_site 1 = .ok (.iconst 0, 1) := by decide +kernel
theorem d_Mo_site_2 : decode b_Mo_site 2 = .ok (.putfield 122, 3) := by decide +kernel
theorem d_Mo_site_5 : decode b_Mo_site 5 = .ok (.iload_n 1, 1) := by decide +kernel
theorem d_Mo_site_6 : decode b_Mo_site 6 = .ok (.aload_n 0, 1) := by decide +kernel
theorem d_Mo_site_7 : decode b_Mo_site 7 = .ok (.getfield 154, 3) := by decide +kernel
theorem d_Mo_site_10 : decode b_Mo_site 10 = .ok (.invokestatic 128, 3) := by decide +kernel
theorem d_Mo_site_13 : decode b_Mo_site 13 = .ok (.ifCond .ne 16, 3) := by decide +kernel
theorem d_Mo_site_16 : decode b_Mo_site 16 = .ok (.iload_n 2, 1) := by decide +kernel
theorem d_Mo_site_17 : decode b_Mo_site 17 = .ok (.aload_n 0, 1) := by decide +kernel
theorem d_Mo_site_18 : decode b_Mo_site 18 = .ok (.getfield 33, 3) := by decide +kernel
theorem d_Mo_site_21 : decode b_Mo_site 21 = .ok (.iload_n 1, 1) := by decide +kernel
theorem d_Mo_site_22 : decode b_Mo_site 22 = .ok (.iaload, 1) := by decide +kernel
theorem d_Mo_site_23 : decode b_Mo_site 23 = .ok (.invokestatic 128, 3) := by decide +kernel
theorem d_Mo_site_26 : decode b_Mo_site 26 = .ok (.ifCond .eq 9, 3) := by decide +kernel
theorem d_Mo_site_29 : decode b_Mo_site 29 = .ok (.aload_n 0, 1) := by decide +kernel
theorem d_Mo_site_30 : decode b_Mo_site 30 = .ok (.iconst 1, 1) := by decide +kernel
theorem d_Mo_site_31 : decode b_Mo_site 31 = .ok (.invokevirtual 140, 3) := by decide +kernel
theorem d_Mo_site_34 : decode b_Mo_site 34 = .ok (.ireturn, 1) := by decide +kernel
theorem d_Mo_site_35 : decode b_Mo_site 35 = .ok (.aload_n 0, 1) := by decide +kernel
theorem d_Mo_site_36 : decode b_Mo_site 36 = .ok (.getfield 60, 3) := by decide +kernel
theorem d_Mo_site_39 : decode b_Mo_site 39 = .ok (.bipush 24, 2) := by decide +kernel
theorem d_Mo_site_41 : decode b_Mo_site 41 = .ok (.iload_n 1, 1) := by decide +kernel
theorem d_Mo_site_42 : decode b_Mo_site 42 = .ok (.imul, 1) := by decide +kernel
theorem d_Mo_site_43 : decode b_Mo_site 43 = .ok (.iload_n 2, 1) := by decide +kernel
theorem d_Mo_site_44 : decode b_Mo_site 44 = .ok (.iadd, 1) := by decide +kernel
theorem d_Mo_site_45 : decode b_Mo_site 45 = .ok (.iaload, 1) := by decide +kernel
theorem d_Mo_site_46 : decode b_Mo_site 46 = .ok (.ifCond .ge 11, 3) := by decide +kernel
theorem d_Mo_site_49 : decode b_Mo_site 49 = .ok (.aload_n 0, 1) := by decide +kernel
theorem d_Mo_site_50 : decode b_Mo_site 50 = .ok (.iconst 2, 1) := by decide +kernel
theorem d_Mo_site_51 : decode b_Mo_site 51 = .ok (.invokevirtual 140, 3) := by decide +kernel
theorem d_Mo_site_54 : decode b_Mo_site 54 = .ok (.goto 14, 3) := by decide +kernel
theorem d_Mo_site_57 : decode b_Mo_site 57 = .ok (.aload_n 0, 1) := by decide +kernel
theorem d_Mo_site_58 : decode b_Mo_site 58 = .ok (.getfield 60, 3) := by decide +kernel
theorem d_Mo_site_61 : decode b_Mo_site 61 = .ok (.bipush 24, 2) := by decide +kernel
theorem d_Mo_site_63 : decode b_Mo_site 63 = .ok (.iload_n 1, 1) := by decide +kernel
theorem d_Mo_site_64 : decode b_Mo_site 64 = .ok (.imul, 1) := by decide +kernel
theorem d_Mo_site_65 : decode b_Mo_site 65 = .ok (.iload_n 2, 1) := by decide +kernel
theorem d_Mo_site_66 : decode b_Mo_site 66 = .ok (.iadd, 1) := by decide +kernel
theorem d_Mo_site_67 : decode b_Mo_site 67 = .ok (.iaload, 1) := by decide +kernel
theorem d_Mo_site_68 : decode b_Mo_site 68 = .ok (.ireturn, 1) := by decide +kernel
def j_Mo_site_29 (x0 : Nat) (M : fm_M) : Option (Int32 × fm_M) :=
  (ck x0 10).bind fun _ =>
  bd (f_Mo_fail x0 1 M) fun x104 M102 =>
  some (x104, M102)
def f_Mo_site (x0 : Nat) (x1 : Int32) (x2 : Int32) (M : fm_M) : Option (Int32 × fm_M) :=
  (pi x0 10 0 0 M).bind fun M105 =>
  (gi x0 10 9 M105).bind fun x107 =>
  bd (f_Mo_out x1 x107 M105) fun x111 M109 =>
  if x111 = 0 then
    (gr x0 10 13).bind fun q113 =>
    (ai q113 x1 M109).bind fun x115 =>
    bd (f_Mo_out x2 x115 M109) fun x119 M117 =>
    if x119 = 0 then
      (gr x0 10 22).bind fun q121 =>
      (ai q121 ((24 * x1) + x2) M117).bind fun x123 =>
      if 0 ≤ x123 then
        (gr x0 10 22).bind fun q126 =>
        (ai q126 ((24 * x1) + x2) M117).bind fun x128 =>
        some (x128, M117)
      else
        (ck x0 10).bind fun _ =>
        bd (f_Mo_fail x0 2 M117) fun x133 M131 =>
        some (x133, M131)
    else
      j_Mo_site_29 x0 M117
  else
    j_Mo_site_29 x0 M109
set_option maxHeartbeats 4000000 in
set_option maxRecDepth 100000 in
theorem w_Mo_site_29 {p : Program} {l : Launch} {e : Env} {s : State} {m : MethodId} {args : Array Value} {below : List Frame} {meth : Method} {c : Code} {G : fm_G} (C0 : fm_C p s m args meth c G (.code y_Mo_site b_Mo_site 3 (some .int)) "AllocationProfilerModel" b_Mo_site 3 (some .int)) {v : Int32} {M' : fm_M} (x0 : Nat) {M : fm_M} {H : Heap} {locs : List Loc} (hP : kP G M H) (hS : kS G s H locs) {ls : Array Slot} (hl : lv_has ls 3 [(0, .ref (G.2.2 + x0))]) (h : j_Mo_site_29 x0 M = some (v, M')) : W p l e rm_Mo_site s m args below meth c H locs 0 0 (MQ below (fm_Q G 212 shF (some (.int v)) M') args s 0 0 (fm_A G.2.2)) (F0 m 29 ls []) := by
  have hx := C0.1
  have hb := C0.2.1
  unfold j_Mo_site_29 at h
  refine lv_aload_n hx hb d_Mo_site_29 rfl (lv_at hl 0 rfl) ?_
  refine lv_iconst (v := 1) hx hb d_Mo_site_30 ic_1 ?_
  obtain ⟨_, e101, h⟩ := ob h
  obtain ⟨x104, M102, e103, h⟩ := ob2 h
  refine k_cV C0 L_Mo_140 (As := [.int 1]) (c_Mo_fail l G x0 1 e103) ⟨rfl, rfl⟩ ⟨Nat.le_of_ble_eq_true rfl, Nat.le_of_ble_eq_true rfl⟩ hP hS (ck_of e101) ly_Mo rfl hl.1 rfl (Nat.le_of_ble_eq_true rfl) d_Mo_site_31 ⟨Nat.zero_le _, Nat.zero_le _⟩ (fun H locs hP hS => ?_)
  cases h
  exact r_iret C0 hP hS d_Mo_site_34
set_option maxHeartbeats 4000000 in
set_option maxRecDepth 100000 in
theorem c_Mo_site (l : Launch) (G : fm_G) (x0 : Nat) (x1 : Int32) (x2 : Int32) {v : Int32} {M M' : fm_M} (h : f_Mo_site x0 x1 x2 M = some (v, M')) : kMet l y_Mo_site b_Mo_site 3 (some .int) rm_Mo_site G M [.ref (G.2.2 + x0), .int x1, .int x2] (some (.int v)) M' := by
  refine r_met (by decide) rfl (Nat.le_of_ble_eq_true rfl) (fun p e s m args below meth c C0 hP ls hl => ?_)
  have hx := C0.1
  have hb := C0.2.1
  have hl : lv_has ls 3 [(0, .ref (G.2.2 + x0)), (1, .int x1), (2, .int x2)] := hl
  have hS : va_S (fm_A G.2.2) s.heap s.heap [] := va_S.rf
  unfold f_Mo_site at h
  refine lv_aload_n hx hb d_Mo_site_0 rfl (lv_at hl 0 rfl) ?_
  refine lv_iconst (v := 0) hx hb d_Mo_site_1 ic_0 ?_
  obtain ⟨M105, e106, h⟩ := ob h
  refine k_pi C0 F_Mo_122p ik_10_0 hP hS e106 d_Mo_site_2 (fun H locs hP hS => ?_)
  refine lv_iload_n hx hb d_Mo_site_5 rfl (lv_at hl 1 rfl) ?_
  refine lv_aload_n hx hb d_Mo_site_6 rfl (lv_at hl 0 rfl) ?_
  obtain ⟨x107, e108, h⟩ := ob h
  refine k_gi C0 F_Mo_154 ik_10_9 hP e108 d_Mo_site_7 ?_
  obtain ⟨x111, M109, e110, h⟩ := ob2 h
  refine k_cS C0 L_Mo_128 (As := [.int x1, .int x107]) (c_Mo_out l G x1 x107 e110) ⟨rfl, rfl⟩ ⟨Nat.le_of_ble_eq_true rfl, Nat.le_of_ble_eq_true rfl⟩ hP hS rfl hl.1 rfl (Nat.le_of_ble_eq_true rfl) d_Mo_site_10 ⟨Nat.zero_le _, Nat.zero_le _⟩ (fun H locs hP hS => ?_)
  refine lv_if_ne (tgt := 29) hx hb d_Mo_site_13 (by decide) (fun c112 => ?_) (fun c112 => ?_)
  · rw [if_neg c112] at h
    exact w_Mo_site_29 C0 x0 hP hS (lv_sub hl [0] rfl) h
  · rw [if_pos c112] at h
    refine lv_iload_n hx hb d_Mo_site_16 rfl (lv_at hl 2 rfl) ?_
    refine lv_aload_n hx hb d_Mo_site_17 rfl (lv_at hl 0 rfl) ?_
    obtain ⟨q113, e114, h⟩ := ob h
    refine k_gr C0 F_Mo_33 hP e114 d_Mo_site_18 ?_
    refine lv_iload_n hx hb d_Mo_site_21 rfl (lv_at hl 1 rfl) ?_
    obtain ⟨x115, e116, h⟩ := ob h
    refine k_ai C0 hP e116 d_Mo_site_22 ?_
    obtain ⟨x119, M117, e118, h⟩ := ob2 h
    refine k_cS C0 L_Mo_128 (As := [.int x2, .int x115]) (c_Mo_out l G x2 x115 e118) ⟨rfl, rfl⟩ ⟨Nat.le_of_ble_eq_true rfl, Nat.le_of_ble_eq_true rfl⟩ hP hS rfl hl.1 rfl (Nat.le_of_ble_eq_true rfl) d_Mo_site_23 ⟨Nat.zero_le _, Nat.zero_le _⟩ (fun H locs hP hS => ?_)
    refine lv_if_eq (tgt := 35) hx hb d_Mo_site_26 (by decide) (fun c120 => ?_) (fun c120 => ?_)
    · rw [if_pos c120] at h
      refine lv_aload_n hx hb d_Mo_site_35 rfl (lv_at hl 0 rfl) ?_
      obtain ⟨q121, e122, h⟩ := ob h
      refine k_gr C0 F_Mo_60 hP e122 d_Mo_site_36 ?_
      refine lv_bipush (v := 24) hx hb d_Mo_site_39 bp_24 ?_
      refine lv_iload_n hx hb d_Mo_site_41 rfl (lv_at hl 1 rfl) ?_
      refine lv_imul hx hb d_Mo_site_42 ?_
      refine lv_iload_n hx hb d_Mo_site_43 rfl (lv_at hl 2 rfl) ?_
      refine lv_iadd hx hb d_Mo_site_44 ?_
      obtain ⟨x123, e124, h⟩ := ob h
      refine k_ai C0 hP e124 d_Mo_site_45 ?_
      refine lv_if_ge (tgt := 57) hx hb d_Mo_site_46 (by decide) (fun c125 => ?_) (fun c125 => ?_)
      · rw [if_pos c125] at h
        refine lv_aload_n hx hb d_Mo_site_57 rfl (lv_at hl 0 rfl) ?_
        obtain ⟨q126, e127, h⟩ := ob h
        refine k_gr C0 F_Mo_60 hP e127 d_Mo_site_58 ?_
        refine lv_bipush (v := 24) hx hb d_Mo_site_61 bp_24 ?_
        refine lv_iload_n hx hb d_Mo_site_63 rfl (lv_at hl 1 rfl) ?_
        refine lv_imul hx hb d_Mo_site_64 ?_
        refine lv_iload_n hx hb d_Mo_site_65 rfl (lv_at hl 2 rfl) ?_
        refine lv_iadd hx hb d_Mo_site_66 ?_
        obtain ⟨x128, e129, h⟩ := ob h
        refine k_ai C0 hP e129 d_Mo_site_67 ?_
        cases h
        exact r_iret C0 hP hS d_Mo_site_68
      · rw [if_neg c125] at h
        refine lv_aload_n hx hb d_Mo_site_49 rfl (lv_at hl 0 rfl) ?_
        refine lv_iconst (v := 2) hx hb d_Mo_site_50 ic_2 ?_
        obtain ⟨_, e130, h⟩ := ob h
        obtain ⟨x133, M131, e132, h⟩ := ob2 h
        refine k_cV C0 L_Mo_140 (As := [.int 2]) (c_Mo_fail l G x0 2 e132) ⟨rfl, rfl⟩ ⟨Nat.le_of_ble_eq_true rfl, Nat.le_of_ble_eq_true rfl⟩ hP hS (ck_of e130) ly_Mo rfl hl.1 rfl (Nat.le_of_ble_eq_true rfl) d_Mo_site_51 ⟨Nat.zero_le _, Nat.zero_le _⟩ (fun H locs hP hS => ?_)
        refine lv_goto (tgt := 68) hx hb d_Mo_site_54 (by decide) ?_
        cases h
        exact r_iret C0 hP hS d_Mo_site_68
    · rw [if_neg c120] at h
      exact w_Mo_site_29 C0 x0 hP hS (lv_sub hl [0] rfl) h
/-! AllocationProfilerModel.enter -/
def rm_Mo_enter : Room := { frames := 0, cells := 0, slots := 0, locals := 0 }
theorem d_Mo_enter_0 : decode b_Mo_enter 0 = .ok (.iconst 5, 1) := by decide +kernel
theorem d_Mo_enter_1 : decode b_Mo_enter 1 = .ok (.iload_n 1, 1) := by decide +kernel
theorem d_Mo_enter_2 : decode b_Mo_enter 2 = .ok (.imul, 1) := by decide +kernel
theorem d_Mo_enter_3 : decode b_Mo_enter 3 = .ok (.aload_n 0, 1) := by decide +kernel
theorem d_Mo_enter_4 : decode b_Mo_enter 4 = .ok (.getfield 66, 3) := by decide +kernel
theorem d_Mo_enter_7 : decode b_Mo_enter 7 = .ok (.iload_n 1, 1) := by decide +kernel
theorem d_Mo_enter_8 : decode b_Mo_enter 8 = .ok (.iaload, 1) := by decide +kernel
theorem d_Mo_enter_9 : decode b_Mo_enter 9 = .ok (.iadd, 1) := by decide +kernel
theorem d_Mo_enter_10 : decode b_Mo_enter 10 = .ok (.istore 4, 2) := by decide +kernel
theorem d_Mo_enter_12 : decode b_Mo_enter 12 = .ok (.aload_n 0, 1) := by decide +kernel
theorem d_Mo_enter_13 : decode b_Mo_enter 13 = .ok (.getfield 75, 3) := by decide +kernel
theorem d_Mo_enter_16 : decode b_Mo_enter 16 = .ok (.iload 4, 2) := by decide +kernel
theorem d_Mo_enter_18 : decode b_Mo_enter 18 = .ok (.iload_n 2, 1) := by decide +kernel
theorem d_Mo_enter_19 : decode b_Mo_enter 19 = .ok (.iastore, 1) := by decide +kernel
theorem d_Mo_enter_20 : decode b_Mo_enter 20 = .ok (.aload_n 0, 1) := by decide +kernel
theorem d_Mo_enter_21 : decode b_Mo_enter 21 = .ok (.getfield 78, 3) := by decide +kernel
theorem d_Mo_enter_24 : decode b_Mo_enter 24 = .ok (.iload 4, 2) := by decide +kernel
theorem d_Mo_enter_26 : decode b_Mo_enter 26 = .ok (.iconst 0, 1) := by decide +kernel
theorem d_Mo_enter_27 : decode b_Mo_enter 27 = .ok (.iastore, 1) := by decide +kernel
theorem d_Mo_enter_28 : decode b_Mo_enter 28 = .ok (.aload_n 0, 1) := by decide +kernel
theorem d_Mo_enter_29 : decode b_Mo_enter 29 = .ok (.getfield 81, 3) := by decide +kernel
theorem d_Mo_enter_32 : decode b_Mo_enter 32 = .ok (.iload 4, 2) := by decide +kernel
theorem d_Mo_enter_34 : decode b_Mo_enter 34 = .ok (.iconst 0, 1) := by decide +kernel
theorem d_Mo_enter_35 : decode b_Mo_enter 35 = .ok (.iastore, 1) := by decide +kernel
theorem d_Mo_enter_36 : decode b_Mo_enter 36 = .ok (.iconst 0, 1) := by decide +kernel
theorem d_Mo_enter_37 : decode b_Mo_enter 37 = .ok (.istore 5, 2) := by decide +kernel
theorem d_Mo_enter_39 : decode b_Mo_enter 39 = .ok (.iload 5, 2) := by decide +kernel
theorem d_Mo_enter_41 : decode b_Mo_enter 41 = .ok (.iconst 4, 1) := by decide +kernel
theorem d_Mo_enter_42 : decode b_Mo_enter 42 = .ok (.if_icmp .ge 31, 3) := by decide +kernel
theorem d_Mo_enter_45 : decode b_Mo_enter 45 = .ok (.aload_n 0, 1) := by decide +kernel
theorem d_Mo_enter_46 : decode b_Mo_enter 46 = .ok (.getfield 84, 3) := by decide +kernel
theorem d_Mo_enter_49 : decode b_Mo_enter 49 = .ok (.iconst 4, 1) := by decide +kernel
theorem d_Mo_enter_50 : decode b_Mo_enter 50 = .ok (.iload 4, 2) := by decide +kernel
theorem d_Mo_enter_52 : decode b_Mo_enter 52 = .ok (.imul, 1) := by decide +kernel
theorem d_Mo_enter_53 : decode b_Mo_enter 53 = .ok (.iload 5, 2) := by decide +kernel
theorem d_Mo_enter_55 : decode b_Mo_enter 55 = .ok (.iadd, 1) := by decide +kernel
theorem d_Mo_enter_56 : decode b_Mo_enter 56 = .ok (.iload 5, 2) := by decide +kernel
theorem d_Mo_enter_58 : decode b_Mo_enter 58 = .ok (.ifCond .ne 7, 3) := by decide +kernel
theorem d_Mo_enter_61 : decode b_Mo_enter 61 = .ok (.iload_n 3, 1) := by decide +kernel
theorem d_Mo_enter_62 : decode b_Mo_enter 62 = .ok (.goto 4, 3) := by decide +kernel
theorem d_Mo_enter_65 : decode b_Mo_enter 65 = .ok (.iconst 0, 1) := by decide +kernel
theorem d_Mo_enter_66 : decode b_Mo_enter 66 = .ok (.iastore, 1) := by decide +kernel
theorem d_Mo_enter_67 : decode b_Mo_enter 67 = .ok (.iinc 5 1, 3) := by decide +kernel
theorem d_Mo_enter_70 : decode b_Mo_enter 70 = .ok (.goto (-31), 3) := by decide +kernel
theorem d_Mo_enter_73 : decode b_Mo_enter 73 = .ok (.aload_n 0, 1) := by decide +kernel
theorem d_Mo_enter_74 : decode b_Mo_enter 74 = .ok (.getfield 66, 3) := by decide +kernel
theorem d_Mo_enter_77 : decode b_Mo_enter 77 = .ok (.iload_n 1, 1) := by decide +kernel
theorem d_Mo_enter_78 : decode b_Mo_enter 78 = .ok (.dup2, 1) := by decide +kernel
theorem d_Mo_enter_79 : decode b_Mo_enter 79 = .ok (.iaload, 1) := by decide +kernel
theorem d_Mo_enter_80 : decode b_Mo_enter 80 = .ok (.iconst 1, 1) := by decide +kernel
theorem d_Mo_enter_81 : decode b_Mo_enter 81 = .ok (.iadd, 1) := by decide +kernel
theorem d_Mo_enter_82 : decode b_Mo_enter 82 = .ok (.iastore, 1) := by decide +kernel
theorem d_Mo_enter_83 : decode b_Mo_enter 83 = .ok (.return_, 1) := by decide +kernel
def j_Mo_enter_66 (k39 : Nat → Int32 → Int32 → Int32 → Int32 → fm_M → Option fm_M) (x0 : Nat) (x1 : Int32) (x3 : Int32) (x4 : Int32) (x5 : Int32) (s0 : Nat) (s1 : Int32) (s2 : Int32) (M : fm_M) : Option fm_M :=
  (si s0 s1 s2 M).bind fun M101 =>
  k39 x0 x1 x3 x4 (x5 + 1) M101
def h_Mo_enter_39 : Nat → Nat → Int32 → Int32 → Int32 → Int32 → fm_M → Option fm_M
  | 0, _, _, _, _, _, _ => none
  | n + 1, x0, x1, x3, x4, x5, M =>
    if 4 ≤ x5 then
      (gr x0 10 25).bind fun q104 =>
      (ai q104 x1 M).bind fun x106 =>
      (si q104 x1 (x106 + 1) M).bind fun M108 =>
      some M108
    else
      (gr x0 10 31).bind fun q110 =>
      if x5 = 0 then
        j_Mo_enter_66 (h_Mo_enter_39 n) x0 x1 x3 x4 x5 q110 ((4 * x4) + x5) x3 M
      else
        j_Mo_enter_66 (h_Mo_enter_39 n) x0 x1 x3 x4 x5 q110 ((4 * x4) + x5) 0 M
def f_Mo_enter (x0 : Nat) (x1 : Int32) (x2 : Int32) (x3 : Int32) (M : fm_M) : Option fm_M :=
  (gr x0 10 25).bind fun q113 =>
  (ai q113 x1 M).bind fun x115 =>
  (gr x0 10 28).bind fun q117 =>
  (si q117 ((5 * x1) + x115) x2 M).bind fun M119 =>
  (gr x0 10 29).bind fun q121 =>
  (si q121 ((5 * x1) + x115) 0 M119).bind fun M123 =>
  (gr x0 10 30).bind fun q125 =>
  (si q125 ((5 * x1) + x115) 0 M123).bind fun M127 =>
  h_Mo_enter_39 100000 x0 x1 x3 ((5 * x1) + x115) 0 M127
set_option maxHeartbeats 4000000 in
set_option maxRecDepth 100000 in
theorem w_Mo_enter_66 {p : Program} {l : Launch} {e : Env} {s : State} {m : MethodId} {args : Array Value} {below : List Frame} {meth : Method} {c : Code} {G : fm_G} (C0 : fm_C p s m args meth c G (.code y_Mo_enter b_Mo_enter 6 none) "AllocationProfilerModel" b_Mo_enter 6 none) {M' : fm_M} (k39 : Nat → Int32 → Int32 → Int32 → Int32 → fm_M → Option fm_M) (hk39 : ∀ (x0 : Nat) (x1 : Int32) (x3 : Int32) (x4 : Int32) (x5 : Int32) {M : fm_M} {H : Heap} {locs : List Loc}, kP G M H → kS G s H locs → ∀ {ls : Array Slot}, lv_has ls 6 [(0, .ref (G.2.2 + x0)), (1, .int x1), (3, .int x3), (4, .int x4), (5, .int x5)] → k39 x0 x1 x3 x4 x5 M = some M' → W p l e rm_Mo_enter s m args below meth c H locs 0 0 (MQ below (fm_Q G 212 shF none M') args s 0 0 (fm_A G.2.2)) (F0 m 39 ls [])) (x0 : Nat) (x1 : Int32) (x3 : Int32) (x4 : Int32) (x5 : Int32) (s0 : Nat) (s1 : Int32) (s2 : Int32) {M : fm_M} {H : Heap} {locs : List Loc} (hP : kP G M H) (hS : kS G s H locs) {ls : Array Slot} (hl : lv_has ls 6 [(0, .ref (G.2.2 + x0)), (1, .int x1), (3, .int x3), (4, .int x4), (5, .int x5)]) (h : j_Mo_enter_66 k39 x0 x1 x3 x4 x5 s0 s1 s2 M = some M') : W p l e rm_Mo_enter s m args below meth c H locs 0 0 (MQ below (fm_Q G 212 shF none M') args s 0 0 (fm_A G.2.2)) (F0 m 66 ls [.int s2, .int s1, .ref (G.2.2 + s0)]) := by
  have hx := C0.1
  have hb := C0.2.1
  unfold j_Mo_enter_66 at h
  obtain ⟨M101, e102, h⟩ := ob h
  refine k_si C0 hP hS e102 d_Mo_enter_66 (fun H locs hP hS => ?_)
  refine lv_iinc (v := (x5 + 1)) (lv' := [(5, .int (x5 + 1)), (0, .ref (G.2.2 + x0)), (1, .int x1), (3, .int x3), (4, .int x4)]) hx hb d_Mo_enter_67 hl (k := 4) rfl (congrArg (fun z => x5 + z) ic_1) (by decide) rfl (fun ls hl => ?_)
  refine lv_goto (tgt := 39) hx hb d_Mo_enter_70 (by decide) ?_
  exact hk39 x0 x1 x3 x4 (x5 + 1) hP hS (lv_sub hl [1, 2, 3, 4, 0] rfl) h
set_option maxHeartbeats 4000000 in
set_option maxRecDepth 100000 in
theorem w_Mo_enter_39 {p : Program} {l : Launch} {e : Env} {s : State} {m : MethodId} {args : Array Value} {below : List Frame} {meth : Method} {c : Code} {G : fm_G} (C0 : fm_C p s m args meth c G (.code y_Mo_enter b_Mo_enter 6 none) "AllocationProfilerModel" b_Mo_enter 6 none) {M' : fm_M} : ∀ (n : Nat) (x0 : Nat) (x1 : Int32) (x3 : Int32) (x4 : Int32) (x5 : Int32) {M : fm_M} {H : Heap} {locs : List Loc}, kP G M H → kS G s H locs → ∀ {ls : Array Slot}, lv_has ls 6 [(0, .ref (G.2.2 + x0)), (1, .int x1), (3, .int x3), (4, .int x4), (5, .int x5)] → h_Mo_enter_39 n x0 x1 x3 x4 x5 M = some M' → W p l e rm_Mo_enter s m args below meth c H locs 0 0 (MQ below (fm_Q G 212 shF none M') args s 0 0 (fm_A G.2.2)) (F0 m 39 ls []) := by
  have hx := C0.1
  have hb := C0.2.1
  intro n
  induction n with
  | zero =>
    intro x0 x1 x3 x4 x5 M H locs hP hS ls hl h
    exact nomatch h
  | succ n ih =>
    intro x0 x1 x3 x4 x5 M H locs hP hS ls hl h
    have h : (if 4 ≤ x5 then
        (gr x0 10 25).bind fun q104 =>
        (ai q104 x1 M).bind fun x106 =>
        (si q104 x1 (x106 + 1) M).bind fun M108 =>
        some M108
      else
        (gr x0 10 31).bind fun q110 =>
        if x5 = 0 then
          j_Mo_enter_66 (h_Mo_enter_39 n) x0 x1 x3 x4 x5 q110 ((4 * x4) + x5) x3 M
        else
          j_Mo_enter_66 (h_Mo_enter_39 n) x0 x1 x3 x4 x5 q110 ((4 * x4) + x5) 0 M) = some M' := h
    refine lv_iload hx hb d_Mo_enter_39 (lv_at hl 4 rfl) ?_
    refine lv_iconst (v := 4) hx hb d_Mo_enter_41 ic_4 ?_
    refine lv_icmp_ge (tgt := 73) hx hb d_Mo_enter_42 (by decide) (fun c103 => ?_) (fun c103 => ?_)
    · rw [if_pos c103] at h
      refine lv_aload_n hx hb d_Mo_enter_73 rfl (lv_at hl 0 rfl) ?_
      obtain ⟨q104, e105, h⟩ := ob h
      refine k_gr C0 F_Mo_66 hP e105 d_Mo_enter_74 ?_
      refine lv_iload_n hx hb d_Mo_enter_77 rfl (lv_at hl 1 rfl) ?_
      refine lv_dup2_11 hx hb d_Mo_enter_78 rfl rfl ?_
      obtain ⟨x106, e107, h⟩ := ob h
      refine k_ai C0 hP e107 d_Mo_enter_79 ?_
      refine lv_iconst (v := 1) hx hb d_Mo_enter_80 ic_1 ?_
      refine lv_iadd hx hb d_Mo_enter_81 ?_
      obtain ⟨M108, e109, h⟩ := ob h
      refine k_si C0 hP hS e109 d_Mo_enter_82 (fun H locs hP hS => ?_)
      cases h
      exact r_vret C0 hP hS d_Mo_enter_83
    · rw [if_neg c103] at h
      refine lv_aload_n hx hb d_Mo_enter_45 rfl (lv_at hl 0 rfl) ?_
      obtain ⟨q110, e111, h⟩ := ob h
      refine k_gr C0 F_Mo_84 hP e111 d_Mo_enter_46 ?_
      refine lv_iconst (v := 4) hx hb d_Mo_enter_49 ic_4 ?_
      refine lv_iload hx hb d_Mo_enter_50 (lv_at hl 3 rfl) ?_
      refine lv_imul hx hb d_Mo_enter_52 ?_
      refine lv_iload hx hb d_Mo_enter_53 (lv_at hl 4 rfl) ?_
      refine lv_iadd hx hb d_Mo_enter_55 ?_
      refine lv_iload hx hb d_Mo_enter_56 (lv_at hl 4 rfl) ?_
      refine lv_if_ne (tgt := 65) hx hb d_Mo_enter_58 (by decide) (fun c112 => ?_) (fun c112 => ?_)
      · rw [if_neg c112] at h
        refine lv_iconst (v := 0) hx hb d_Mo_enter_65 ic_0 ?_
        exact w_Mo_enter_66 C0 (h_Mo_enter_39 n) ih x0 x1 x3 x4 x5 q110 ((4 * x4) + x5) 0 hP hS (lv_sub hl [0, 1, 2, 3, 4] rfl) h
      · rw [if_pos c112] at h
        refine lv_iload_n hx hb d_Mo_enter_61 rfl (lv_at hl 2 rfl) ?_
        refine lv_goto (tgt := 66) hx hb d_Mo_enter_62 (by decide) ?_
        exact w_Mo_enter_66 C0 (h_Mo_enter_39 n) ih x0 x1 x3 x4 x5 q110 ((4 * x4) + x5) x3 hP hS (lv_sub hl [0, 1, 2, 3, 4] rfl) h
set_option maxHeartbeats 4000000 in
set_option maxRecDepth 100000 in
theorem c_Mo_enter (l : Launch) (G : fm_G) (x0 : Nat) (x1 : Int32) (x2 : Int32) (x3 : Int32) {M M' : fm_M} (h : f_Mo_enter x0 x1 x2 x3 M = some M') : kMet l y_Mo_enter b_Mo_enter 6 none rm_Mo_enter G M [.ref (G.2.2 + x0), .int x1, .int x2, .int x3] none M' := by
  refine r_met (by decide) rfl (Nat.le_of_ble_eq_true rfl) (fun p e s m args below meth c C0 hP ls hl => ?_)
  have hx := C0.1
  have hb := C0.2.1
  have hl : lv_has ls 6 [(0, .ref (G.2.2 + x0)), (1, .int x1), (2, .int x2), (3, .int x3)] := hl
  have hS : va_S (fm_A G.2.2) s.heap s.heap [] := va_S.rf
  unfold f_Mo_enter at h
  refine lv_iconst (v := 5) hx hb d_Mo_enter_0 ic_5 ?_
  refine lv_iload_n hx hb d_Mo_enter_1 rfl (lv_at hl 1 rfl) ?_
  refine lv_imul hx hb d_Mo_enter_2 ?_
  refine lv_aload_n hx hb d_Mo_enter_3 rfl (lv_at hl 0 rfl) ?_
  obtain ⟨q113, e114, h⟩ := ob h
  refine k_gr C0 F_Mo_66 hP e114 d_Mo_enter_4 ?_
  refine lv_iload_n hx hb d_Mo_enter_7 rfl (lv_at hl 1 rfl) ?_
  obtain ⟨x115, e116, h⟩ := ob h
  refine k_ai C0 hP e116 d_Mo_enter_8 ?_
  refine lv_iadd hx hb d_Mo_enter_9 ?_
  refine lv_istore (lv' := [(4, .int ((5 * x1) + x115)), (0, .ref (G.2.2 + x0)), (1, .int x1), (2, .int x2), (3, .int x3)]) hx hb d_Mo_enter_10 hl (by decide) rfl (fun ls hl => ?_)
  refine lv_aload_n hx hb d_Mo_enter_12 rfl (lv_at hl 1 rfl) ?_
  obtain ⟨q117, e118, h⟩ := ob h
  refine k_gr C0 F_Mo_75 hP e118 d_Mo_enter_13 ?_
  refine lv_iload hx hb d_Mo_enter_16 (lv_at hl 0 rfl) ?_
  refine lv_iload_n hx hb d_Mo_enter_18 rfl (lv_at hl 3 rfl) ?_
  obtain ⟨M119, e120, h⟩ := ob h
  refine k_si C0 hP hS e120 d_Mo_enter_19 (fun H locs hP hS => ?_)
  refine lv_aload_n hx hb d_Mo_enter_20 rfl (lv_at hl 1 rfl) ?_
  obtain ⟨q121, e122, h⟩ := ob h
  refine k_gr C0 F_Mo_78 hP e122 d_Mo_enter_21 ?_
  refine lv_iload hx hb d_Mo_enter_24 (lv_at hl 0 rfl) ?_
  refine lv_iconst (v := 0) hx hb d_Mo_enter_26 ic_0 ?_
  obtain ⟨M123, e124, h⟩ := ob h
  refine k_si C0 hP hS e124 d_Mo_enter_27 (fun H locs hP hS => ?_)
  refine lv_aload_n hx hb d_Mo_enter_28 rfl (lv_at hl 1 rfl) ?_
  obtain ⟨q125, e126, h⟩ := ob h
  refine k_gr C0 F_Mo_81 hP e126 d_Mo_enter_29 ?_
  refine lv_iload hx hb d_Mo_enter_32 (lv_at hl 0 rfl) ?_
  refine lv_iconst (v := 0) hx hb d_Mo_enter_34 ic_0 ?_
  obtain ⟨M127, e128, h⟩ := ob h
  refine k_si C0 hP hS e128 d_Mo_enter_35 (fun H locs hP hS => ?_)
  refine lv_iconst (v := 0) hx hb d_Mo_enter_36 ic_0 ?_
  refine lv_istore (lv' := [(5, .int 0), (4, .int ((5 * x1) + x115)), (0, .ref (G.2.2 + x0)), (1, .int x1), (2, .int x2), (3, .int x3)]) hx hb d_Mo_enter_37 hl (by decide) rfl (fun ls hl => ?_)
  exact w_Mo_enter_39 C0 100000 x0 x1 x3 ((5 * x1) + x115) 0 hP hS (lv_sub hl [2, 3, 5, 1, 0] rfl) h
/-! AllocationProfilerModel.start -/
def rm_Mo_start : Room := { frames := 1, cells := 0, slots := 0, locals := 25 }
theorem d_Mo_start_0 : decode b_Mo_start 0 = .ok (.aload_n 0, 1) := by decide +kernel
theorem d_Mo_start_1 : decode b_Mo_start 1 = .ok (.iload_n 1, 1) := by decide +kernel
theorem d_Mo_start_2 : decode b_Mo_start 2 = .ok (.iconst 3, 1) := by decide +kernel
theorem d_Mo_start_3 : decode b_Mo_start 3 = .ok (.invokestatic 128, 3) := by decide +kernel
theorem d_Mo_start_6 : decode b_Mo_start 6 = .ok (.ifCond .ne 14, 3) := by decide +kernel
theorem d_Mo_start_9 : decode b_Mo_start 9 = .ok (.iload_n 2, 1) := by decide +kernel
theorem d_Mo_start_10 : decode b_Mo_start 10 = .ok (.aload_n 0, 1) := by decide +kernel
theorem d_Mo_start_11 : decode b_Mo_start 11 = .ok (.getfield 154, 3) := by decide +kernel
theorem d_Mo_start_14 : decode b_Mo_start 14 = .ok (.invokestatic 128, 3) := by decide +kernel
theorem d_Mo_start_17 : decode b_Mo_start 17 = .ok (.ifCond .eq 7, 3) := by decide +kernel
theorem d_Mo_start_20 : decode b_Mo_start 20 = .ok (.iconst 1, 1) := by decide +kernel
theorem d_Mo_start_21 : decode b_Mo_start 21 = .ok (.goto 25, 3) := by decide +kernel
theorem d_Mo_start_24 : decode b_Mo_start 24 = .ok (.aload_n 0, 1) := by decide +kernel
theorem d_Mo_start_25 : decode b_Mo_start 25 = .ok (.getfield 132, 3) := by decide +kernel
theorem d_Mo_start_28 : decode b_Mo_start 28 = .ok (.ifCond .eq 13, 3) := by decide +kernel
theorem d_Mo_start_31 : decode b_Mo_start 31 = .ok (.aload_n 0, 1) := by decide +kernel
theorem d_Mo_start_32 : decode b_Mo_start 32 = .ok (.getfield 69, 3) := by decide +kernel
theorem d_Mo_start_35 : decode b_Mo_start 35 = .ok (.iload_n 1, 1) := by decide +kernel
theorem d_Mo_start_36 : decode b_Mo_start 36 = .ok (.iaload, 1) := by decide +kernel
theorem d_Mo_start_37 : decode b_Mo_start 37 = .ok (.iconst 1, 1) := by decide +kernel
theorem d_Mo_start_38 : decode b_Mo_start 38 = .ok (.if_icmp .ne 7, 3) := by decide +kernel
theorem d_Mo_start_41 : decode b_Mo_start 41 = .ok (.iconst 2, 1) := by decide +kernel
theorem d_Mo_start_42 : decode b_Mo_start 42 = .ok (.goto 4, 3) := by decide +kernel
theorem d_Mo_start_45 : decode b_Mo_start 45 = .ok (.iconst 0, 1) := by decide +kernel
theorem d_Mo_start_46 : decode b_Mo_start 46 = .ok (.putfield 122, 3) := by decide +kernel
theorem d_Mo_start_49 : decode b_Mo_start 49 = .ok (.aload_n 0, 1) := by decide +kernel
theorem d_Mo_start_50 : decode b_Mo_start 50 = .ok (.getfield 122, 3) := by decide +kernel
theorem d_Mo_start_53 : decode b_Mo_start 53 = .ok (.ifCond .le 4, 3) := by decide +kernel
theorem d_Mo_start_56 : decode b_Mo_start 56 = .ok (.return_, 1) := by decide +kernel
theorem d_Mo_start_57 : decode b_Mo_start 57 = .ok (.aload_n 0, 1) := by decide +kernel
theorem d_Mo_start_58 : decode b_Mo_start 58 = .ok (.getfield 66, 3) := by decide +kernel
theorem d_Mo_start_61 : decode b_Mo_start 61 = .ok (.iload_n 1, 1) := by decide +kernel
theorem d_Mo_start_62 : decode b_Mo_start 62 = .ok (.iconst 0, 1) := by decide +kernel
theorem d_Mo_start_63 : decode b_Mo_start 63 = .ok (.iastore, 1) := by decide +kernel
theorem d_Mo_start_64 : decode b_Mo_start 64 = .ok (.aload_n 0, 1) := by decide +kernel
theorem d_Mo_start_65 : decode b_Mo_start 65 = .ok (.getfield 69, 3) := by decide +kernel
theorem d_Mo_start_68 : decode b_Mo_start 68 = .ok (.iload_n 1, 1) := by decide +kernel
theorem d_Mo_start_69 : decode b_Mo_start 69 = .ok (.iconst 1, 1) := by decide +kernel
theorem d_Mo_start_70 : decode b_Mo_start 70 = .ok (.iastore, 1) := by decide +kernel
theorem d_Mo_start_71 : decode b_Mo_start 71 = .ok (.aload_n 0, 1) := by decide +kernel
theorem d_Mo_start_72 : decode b_Mo_start 72 = .ok (.iload_n 1, 1) := by decide +kernel
theorem d_Mo_start_73 : decode b_Mo_start 73 = .ok (.iload_n 2, 1) := by decide +kernel
theorem d_Mo_start_74 : decode b_Mo_start 74 = .ok (.iload_n 3, 1) := by decide +kernel
theorem d_Mo_start_75 : decode b_Mo_start 75 = .ok (.invokevirtual 202, 3) := by decide +kernel
theorem d_Mo_start_78 : decode b_Mo_start 78 = .ok (.return_, 1) := by decide +kernel
def j_Mo_start_46 (x0 : Nat) (x1 : Int32) (x2 : Int32) (x3 : Int32) (s0 : Nat) (s1 : Int32) (M : fm_M) : Option fm_M :=
  (pi s0 10 0 s1 M).bind fun M101 =>
  (gi x0 10 0 M101).bind fun x103 =>
  if x103 ≤ 0 then
    (gr x0 10 25).bind fun q106 =>
    (si q106 x1 0 M101).bind fun M108 =>
    (gr x0 10 26).bind fun q110 =>
    (si q110 x1 1 M108).bind fun M112 =>
    (ck x0 10).bind fun _ =>
    (f_Mo_enter x0 x1 x2 x3 M112).bind fun M115 =>
    some M115
  else
    some M101
def j_Mo_start_20 (x0 : Nat) (x1 : Int32) (x2 : Int32) (x3 : Int32) (s0 : Nat) (M : fm_M) : Option fm_M :=
  j_Mo_start_46 x0 x1 x2 x3 s0 1 M
def j_Mo_start_41 (x0 : Nat) (x1 : Int32) (x2 : Int32) (x3 : Int32) (s0 : Nat) (M : fm_M) : Option fm_M :=
  j_Mo_start_46 x0 x1 x2 x3 s0 2 M
def f_Mo_start (x0 : Nat) (x1 : Int32) (x2 : Int32) (x3 : Int32) (M : fm_M) : Option fm_M :=
  bd (f_Mo_out x1 3 M) fun x119 M117 =>
  if x119 = 0 then
    (gi x0 10 9 M117).bind fun x121 =>
    bd (f_Mo_out x2 x121 M117) fun x125 M123 =>
    if x125 = 0 then
      (gi x0 10 11 M123).bind fun x127 =>
      if x127 = 0 then
        j_Mo_start_41 x0 x1 x2 x3 x0 M123
      else
        (gr x0 10 26).bind fun q130 =>
        (ai q130 x1 M123).bind fun x132 =>
        if x132 = 1 then
          j_Mo_start_41 x0 x1 x2 x3 x0 M123
        else
          j_Mo_start_46 x0 x1 x2 x3 x0 0 M123
    else
      j_Mo_start_20 x0 x1 x2 x3 x0 M123
  else
    j_Mo_start_20 x0 x1 x2 x3 x0 M117
set_option maxHeartbeats 4000000 in
set_option maxRecDepth 100000 in
theorem w_Mo_start_46 {p : Program} {l : Launch} {e : Env} {s : State} {m : MethodId} {args : Array Value} {below : List Frame} {meth : Method} {c : Code} {G : fm_G} (C0 : fm_C p s m args meth c G (.code y_Mo_start b_Mo_start 4 none) "AllocationProfilerModel" b_Mo_start 4 none) {M' : fm_M} (x0 : Nat) (x1 : Int32) (x2 : Int32) (x3 : Int32) (s0 : Nat) (s1 : Int32) {M : fm_M} {H : Heap} {locs : List Loc} (hP : kP G M H) (hS : kS G s H locs) {ls : Array Slot} (hl : lv_has ls 4 [(0, .ref (G.2.2 + x0)), (1, .int x1), (2, .int x2), (3, .int x3)]) (h : j_Mo_start_46 x0 x1 x2 x3 s0 s1 M = some M') : W p l e rm_Mo_start s m args below meth c H locs 0 0 (MQ below (fm_Q G 212 shF none M') args s 0 0 (fm_A G.2.2)) (F0 m 46 ls [.int s1, .ref (G.2.2 + s0)]) := by
  have hx := C0.1
  have hb := C0.2.1
  unfold j_Mo_start_46 at h
  obtain ⟨M101, e102, h⟩ := ob h
  refine k_pi C0 F_Mo_122p ik_10_0 hP hS e102 d_Mo_start_46 (fun H locs hP hS => ?_)
  refine lv_aload_n hx hb d_Mo_start_49 rfl (lv_at hl 0 rfl) ?_
  obtain ⟨x103, e104, h⟩ := ob h
  refine k_gi C0 F_Mo_122 ik_10_0 hP e104 d_Mo_start_50 ?_
  refine lv_if_le (tgt := 57) hx hb d_Mo_start_53 (by decide) (fun c105 => ?_) (fun c105 => ?_)
  · rw [if_pos c105] at h
    refine lv_aload_n hx hb d_Mo_start_57 rfl (lv_at hl 0 rfl) ?_
    obtain ⟨q106, e107, h⟩ := ob h
    refine k_gr C0 F_Mo_66 hP e107 d_Mo_start_58 ?_
    refine lv_iload_n hx hb d_Mo_start_61 rfl (lv_at hl 1 rfl) ?_
    refine lv_iconst (v := 0) hx hb d_Mo_start_62 ic_0 ?_
    obtain ⟨M108, e109, h⟩ := ob h
    refine k_si C0 hP hS e109 d_Mo_start_63 (fun H locs hP hS => ?_)
    refine lv_aload_n hx hb d_Mo_start_64 rfl (lv_at hl 0 rfl) ?_
    obtain ⟨q110, e111, h⟩ := ob h
    refine k_gr C0 F_Mo_69 hP e111 d_Mo_start_65 ?_
    refine lv_iload_n hx hb d_Mo_start_68 rfl (lv_at hl 1 rfl) ?_
    refine lv_iconst (v := 1) hx hb d_Mo_start_69 ic_1 ?_
    obtain ⟨M112, e113, h⟩ := ob h
    refine k_si C0 hP hS e113 d_Mo_start_70 (fun H locs hP hS => ?_)
    refine lv_aload_n hx hb d_Mo_start_71 rfl (lv_at hl 0 rfl) ?_
    refine lv_iload_n hx hb d_Mo_start_72 rfl (lv_at hl 1 rfl) ?_
    refine lv_iload_n hx hb d_Mo_start_73 rfl (lv_at hl 2 rfl) ?_
    refine lv_iload_n hx hb d_Mo_start_74 rfl (lv_at hl 3 rfl) ?_
    obtain ⟨_, e114, h⟩ := ob h
    obtain ⟨M115, e116, h⟩ := ob h
    refine k_cVv C0 L_Mo_202 (As := [.int x1, .int x2, .int x3]) (c_Mo_enter l G x0 x1 x2 x3 e116) ⟨rfl, rfl⟩ ⟨Nat.le_of_ble_eq_true rfl, Nat.le_of_ble_eq_true rfl⟩ hP hS (ck_of e114) ly_Mo rfl hl.1 rfl (Nat.le_of_ble_eq_true rfl) d_Mo_start_75 ⟨Nat.zero_le _, Nat.zero_le _⟩ (fun H locs hP hS => ?_)
    cases h
    exact r_vret C0 hP hS d_Mo_start_78
  · rw [if_neg c105] at h
    cases h
    exact r_vret C0 hP hS d_Mo_start_56
set_option maxHeartbeats 4000000 in
set_option maxRecDepth 100000 in
theorem w_Mo_start_20 {p : Program} {l : Launch} {e : Env} {s : State} {m : MethodId} {args : Array Value} {below : List Frame} {meth : Method} {c : Code} {G : fm_G} (C0 : fm_C p s m args meth c G (.code y_Mo_start b_Mo_start 4 none) "AllocationProfilerModel" b_Mo_start 4 none) {M' : fm_M} (x0 : Nat) (x1 : Int32) (x2 : Int32) (x3 : Int32) (s0 : Nat) {M : fm_M} {H : Heap} {locs : List Loc} (hP : kP G M H) (hS : kS G s H locs) {ls : Array Slot} (hl : lv_has ls 4 [(0, .ref (G.2.2 + x0)), (1, .int x1), (2, .int x2), (3, .int x3)]) (h : j_Mo_start_20 x0 x1 x2 x3 s0 M = some M') : W p l e rm_Mo_start s m args below meth c H locs 0 0 (MQ below (fm_Q G 212 shF none M') args s 0 0 (fm_A G.2.2)) (F0 m 20 ls [.ref (G.2.2 + s0)]) := by
  have hx := C0.1
  have hb := C0.2.1
  unfold j_Mo_start_20 at h
  refine lv_iconst (v := 1) hx hb d_Mo_start_20 ic_1 ?_
  refine lv_goto (tgt := 46) hx hb d_Mo_start_21 (by decide) ?_
  exact w_Mo_start_46 C0 x0 x1 x2 x3 s0 1 hP hS (lv_sub hl [0, 1, 2, 3] rfl) h
set_option maxHeartbeats 4000000 in
set_option maxRecDepth 100000 in
theorem w_Mo_start_41 {p : Program} {l : Launch} {e : Env} {s : State} {m : MethodId} {args : Array Value} {below : List Frame} {meth : Method} {c : Code} {G : fm_G} (C0 : fm_C p s m args meth c G (.code y_Mo_start b_Mo_start 4 none) "AllocationProfilerModel" b_Mo_start 4 none) {M' : fm_M} (x0 : Nat) (x1 : Int32) (x2 : Int32) (x3 : Int32) (s0 : Nat) {M : fm_M} {H : Heap} {locs : List Loc} (hP : kP G M H) (hS : kS G s H locs) {ls : Array Slot} (hl : lv_has ls 4 [(0, .ref (G.2.2 + x0)), (1, .int x1), (2, .int x2), (3, .int x3)]) (h : j_Mo_start_41 x0 x1 x2 x3 s0 M = some M') : W p l e rm_Mo_start s m args below meth c H locs 0 0 (MQ below (fm_Q G 212 shF none M') args s 0 0 (fm_A G.2.2)) (F0 m 41 ls [.ref (G.2.2 + s0)]) := by
  have hx := C0.1
  have hb := C0.2.1
  unfold j_Mo_start_41 at h
  refine lv_iconst (v := 2) hx hb d_Mo_start_41 ic_2 ?_
  refine lv_goto (tgt := 46) hx hb d_Mo_start_42 (by decide) ?_
  exact w_Mo_start_46 C0 x0 x1 x2 x3 s0 2 hP hS (lv_sub hl [0, 1, 2, 3] rfl) h
set_option maxHeartbeats 4000000 in
set_option maxRecDepth 100000 in
theorem c_Mo_start (l : Launch) (G : fm_G) (x0 : Nat) (x1 : Int32) (x2 : Int32) (x3 : Int32) {M M' : fm_M} (h : f_Mo_start x0 x1 x2 x3 M = some M') : kMet l y_Mo_start b_Mo_start 4 none rm_Mo_start G M [.ref (G.2.2 + x0), .int x1, .int x2, .int x3] none M' := by
  refine r_met (by decide) rfl (Nat.le_of_ble_eq_true rfl) (fun p e s m args below meth c C0 hP ls hl => ?_)
  have hx := C0.1
  have hb := C0.2.1
  have hl : lv_has ls 4 [(0, .ref (G.2.2 + x0)), (1, .int x1), (2, .int x2), (3, .int x3)] := hl
  have hS : va_S (fm_A G.2.2) s.heap s.heap [] := va_S.rf
  unfold f_Mo_start at h
  refine lv_aload_n hx hb d_Mo_start_0 rfl (lv_at hl 0 rfl) ?_
  refine lv_iload_n hx hb d_Mo_start_1 rfl (lv_at hl 1 rfl) ?_
  refine lv_iconst (v := 3) hx hb d_Mo_start_2 ic_3 ?_
  obtain ⟨x119, M117, e118, h⟩ := ob2 h
  refine k_cS C0 L_Mo_128 (As := [.int x1, .int 3]) (c_Mo_out l G x1 3 e118) ⟨rfl, rfl⟩ ⟨Nat.le_of_ble_eq_true rfl, Nat.le_of_ble_eq_true rfl⟩ hP hS rfl hl.1 rfl (Nat.le_of_ble_eq_true rfl) d_Mo_start_3 ⟨Nat.zero_le _, Nat.zero_le _⟩ (fun H locs hP hS => ?_)
  refine lv_if_ne (tgt := 20) hx hb d_Mo_start_6 (by decide) (fun c120 => ?_) (fun c120 => ?_)
  · rw [if_neg c120] at h
    exact w_Mo_start_20 C0 x0 x1 x2 x3 x0 hP hS (lv_sub hl [0, 1, 2, 3] rfl) h
  · rw [if_pos c120] at h
    refine lv_iload_n hx hb d_Mo_start_9 rfl (lv_at hl 2 rfl) ?_
    refine lv_aload_n hx hb d_Mo_start_10 rfl (lv_at hl 0 rfl) ?_
    obtain ⟨x121, e122, h⟩ := ob h
    refine k_gi C0 F_Mo_154 ik_10_9 hP e122 d_Mo_start_11 ?_
    obtain ⟨x125, M123, e124, h⟩ := ob2 h
    refine k_cS C0 L_Mo_128 (As := [.int x2, .int x121]) (c_Mo_out l G x2 x121 e124) ⟨rfl, rfl⟩ ⟨Nat.le_of_ble_eq_true rfl, Nat.le_of_ble_eq_true rfl⟩ hP hS rfl hl.1 rfl (Nat.le_of_ble_eq_true rfl) d_Mo_start_14 ⟨Nat.zero_le _, Nat.zero_le _⟩ (fun H locs hP hS => ?_)
    refine lv_if_eq (tgt := 24) hx hb d_Mo_start_17 (by decide) (fun c126 => ?_) (fun c126 => ?_)
    · rw [if_pos c126] at h
      refine lv_aload_n hx hb d_Mo_start_24 rfl (lv_at hl 0 rfl) ?_
      obtain ⟨x127, e128, h⟩ := ob h
      refine k_gi C0 F_Mo_132 ik_10_11 hP e128 d_Mo_start_25 ?_
      refine lv_if_eq (tgt := 41) hx hb d_Mo_start_28 (by decide) (fun c129 => ?_) (fun c129 => ?_)
      · rw [if_pos c129] at h
        exact w_Mo_start_41 C0 x0 x1 x2 x3 x0 hP hS (lv_sub hl [0, 1, 2, 3] rfl) h
      · rw [if_neg c129] at h
        refine lv_aload_n hx hb d_Mo_start_31 rfl (lv_at hl 0 rfl) ?_
        obtain ⟨q130, e131, h⟩ := ob h
        refine k_gr C0 F_Mo_69 hP e131 d_Mo_start_32 ?_
        refine lv_iload_n hx hb d_Mo_start_35 rfl (lv_at hl 1 rfl) ?_
        obtain ⟨x132, e133, h⟩ := ob h
        refine k_ai C0 hP e133 d_Mo_start_36 ?_
        refine lv_iconst (v := 1) hx hb d_Mo_start_37 ic_1 ?_
        refine lv_icmp_ne (tgt := 45) hx hb d_Mo_start_38 (by decide) (fun c134 => ?_) (fun c134 => ?_)
        · rw [if_neg c134] at h
          refine lv_iconst (v := 0) hx hb d_Mo_start_45 ic_0 ?_
          exact w_Mo_start_46 C0 x0 x1 x2 x3 x0 0 hP hS (lv_sub hl [0, 1, 2, 3] rfl) h
        · rw [if_pos c134] at h
          exact w_Mo_start_41 C0 x0 x1 x2 x3 x0 hP hS (lv_sub hl [0, 1, 2, 3] rfl) h
    · rw [if_neg c126] at h
      exact w_Mo_start_20 C0 x0 x1 x2 x3 x0 hP hS (lv_sub hl [0, 1, 2, 3] rfl) h
/-! AllocationProfilerModel.push -/
def rm_Mo_push : Room := { frames := 0, cells := 0, slots := 0, locals := 0 }
theorem d_Mo_push_0 : decode b_Mo_push 0 = .ok (.aload_n 0, 1) := by decide +kernel
theorem d_Mo_push_1 : decode b_Mo_push 1 = .ok (.getfield 87, 3) := by decide +kernel
theorem d_Mo_push_4 : decode b_Mo_push 4 = .ok (.bipush 6, 2) := by decide +kernel
theorem d_Mo_push_6 : decode b_Mo_push 6 = .ok (.iload_n 1, 1) := by decide +kernel
theorem d_Mo_push_7 : decode b_Mo_push 7 = .ok (.imul, 1) := by decide +kernel
theorem d_Mo_push_8 : decode b_Mo_push 8 = .ok (.aload_n 0, 1) := by decide +kernel
theorem d_Mo_push_9 : decode b_Mo_push 9 = .ok (.getfield 81, 3) := by decide +kernel
theorem d_Mo_push_12 : decode b_Mo_push 12 = .ok (.iload_n 1, 1) := by decide +kernel
theorem d_Mo_push_13 : decode b_Mo_push 13 = .ok (.iaload, 1) := by decide +kernel
theorem d_Mo_push_14 : decode b_Mo_push 14 = .ok (.iadd, 1) := by decide +kernel
theorem d_Mo_push_15 : decode b_Mo_push 15 = .ok (.iload_n 2, 1) := by decide +kernel
theorem d_Mo_push_16 : decode b_Mo_push 16 = .ok (.iastore, 1) := by decide +kernel
theorem d_Mo_push_17 : decode b_Mo_push 17 = .ok (.aload_n 0, 1) := by decide +kernel
theorem d_Mo_push_18 : decode b_Mo_push 18 = .ok (.getfield 81, 3) := by decide +kernel
theorem d_Mo_push_21 : decode b_Mo_push 21 = .ok (.iload_n 1, 1) := by decide +kernel
theorem d_Mo_push_22 : decode b_Mo_push 22 = .ok (.dup2, 1) := by decide +kernel
theorem d_Mo_push_23 : decode b_Mo_push 23 = .ok (.iaload, 1) := by decide +kernel
theorem d_Mo_push_24 : decode b_Mo_push 24 = .ok (.iconst 1, 1) := by decide +kernel
theorem d_Mo_push_25 : decode b_Mo_push 25 = .ok (.iadd, 1) := by decide +kernel
theorem d_Mo_push_26 : decode b_Mo_push 26 = .ok (.iastore, 1) := by decide +kernel
theorem d_Mo_push_27 : decode b_Mo_push 27 = .ok (.return_, 1) := by decide +kernel
def f_Mo_push (x0 : Nat) (x1 : Int32) (x2 : Int32) (M : fm_M) : Option fm_M :=
  (gr x0 10 32).bind fun q101 =>
  (gr x0 10 30).bind fun q103 =>
  (ai q103 x1 M).bind fun x105 =>
  (si q101 ((6 * x1) + x105) x2 M).bind fun M107 =>
  (gr x0 10 30).bind fun q109 =>
  (ai q109 x1 M107).bind fun x111 =>
  (si q109 x1 (x111 + 1) M107).bind fun M113 =>
  some M113
set_option maxHeartbeats 4000000 in
set_option maxRecDepth 100000 in
theorem c_Mo_push (l : Launch) (G : fm_G) (x0 : Nat) (x1 : Int32) (x2 : Int32) {M M' : fm_M} (h : f_Mo_push x0 x1 x2 M = some M') : kMet l y_Mo_push b_Mo_push 3 none rm_Mo_push G M [.ref (G.2.2 + x0), .int x1, .int x2] none M' := by
  refine r_met (by decide) rfl (Nat.le_of_ble_eq_true rfl) (fun p e s m args below meth c C0 hP ls hl => ?_)
  have hx := C0.1
  have hb := C0.2.1
  have hl : lv_has ls 3 [(0, .ref (G.2.2 + x0)), (1, .int x1), (2, .int x2)] := hl
  have hS : va_S (fm_A G.2.2) s.heap s.heap [] := va_S.rf
  unfold f_Mo_push at h
  refine lv_aload_n hx hb d_Mo_push_0 rfl (lv_at hl 0 rfl) ?_
  obtain ⟨q101, e102, h⟩ := ob h
  refine k_gr C0 F_Mo_87 hP e102 d_Mo_push_1 ?_
  refine lv_bipush (v := 6) hx hb d_Mo_push_4 bp_6 ?_
  refine lv_iload_n hx hb d_Mo_push_6 rfl (lv_at hl 1 rfl) ?_
  refine lv_imul hx hb d_Mo_push_7 ?_
  refine lv_aload_n hx hb d_Mo_push_8 rfl (lv_at hl 0 rfl) ?_
  obtain ⟨q103, e104, h⟩ := ob h
  refine k_gr C0 F_Mo_81 hP e104 d_Mo_push_9 ?_
  refine lv_iload_n hx hb d_Mo_push_12 rfl (lv_at hl 1 rfl) ?_
  obtain ⟨x105, e106, h⟩ := ob h
  refine k_ai C0 hP e106 d_Mo_push_13 ?_
  refine lv_iadd hx hb d_Mo_push_14 ?_
  refine lv_iload_n hx hb d_Mo_push_15 rfl (lv_at hl 2 rfl) ?_
  obtain ⟨M107, e108, h⟩ := ob h
  refine k_si C0 hP hS e108 d_Mo_push_16 (fun H locs hP hS => ?_)
  refine lv_aload_n hx hb d_Mo_push_17 rfl (lv_at hl 0 rfl) ?_
  obtain ⟨q109, e110, h⟩ := ob h
  refine k_gr C0 F_Mo_81 hP e110 d_Mo_push_18 ?_
  refine lv_iload_n hx hb d_Mo_push_21 rfl (lv_at hl 1 rfl) ?_
  refine lv_dup2_11 hx hb d_Mo_push_22 rfl rfl ?_
  obtain ⟨x111, e112, h⟩ := ob h
  refine k_ai C0 hP e112 d_Mo_push_23 ?_
  refine lv_iconst (v := 1) hx hb d_Mo_push_24 ic_1 ?_
  refine lv_iadd hx hb d_Mo_push_25 ?_
  obtain ⟨M113, e114, h⟩ := ob h
  refine k_si C0 hP hS e114 d_Mo_push_26 (fun H locs hP hS => ?_)
  cases h
  exact r_vret C0 hP hS d_Mo_push_27
/-! AllocationProfilerModel.pop -/
def rm_Mo_pop : Room := { frames := 0, cells := 0, slots := 0, locals := 0 }
theorem d_Mo_pop_0 : decode b_Mo_pop 0 = .ok (.aload_n 0, 1) := by decide +kernel
theorem d_Mo_pop_1 : decode b_Mo_pop 1 = .ok (.getfield 81, 3) := by decide +kernel
theorem d_Mo_pop_4 : decode b_Mo_pop 4 = .ok (.iload_n 1, 1) := by decide +kernel
theorem d_Mo_pop_5 : decode b_Mo_pop 5 = .ok (.dup2, 1) := by decide +kernel
theorem d_Mo_pop_6 : decode b_Mo_pop 6 = .ok (.iaload, 1) := by decide +kernel
theorem d_Mo_pop_7 : decode b_Mo_pop 7 = .ok (.iconst 1, 1) := by decide +kernel
theorem d_Mo_pop_8 : decode b_Mo_pop 8 = .ok (.isub, 1) := by decide +kernel
theorem d_Mo_pop_9 : decode b_Mo_pop 9 = .ok (.iastore, 1) := by decide +kernel
theorem d_Mo_pop_10 : decode b_Mo_pop 10 = .ok (.aload_n 0, 1) := by decide +kernel
theorem d_Mo_pop_11 : decode b_Mo_pop 11 = .ok (.getfield 87, 3) := by decide +kernel
theorem d_Mo_pop_14 : decode b_Mo_pop 14 = .ok (.bipush 6, 2) := by decide +kernel
theorem d_Mo_pop_16 : decode b_Mo_pop 16 = .ok (.iload_n 1, 1) := by decide +kernel
theorem d_Mo_pop_17 : decode b_Mo_pop 17 = .ok (.imul, 1) := by decide +kernel
theorem d_Mo_pop_18 : decode b_Mo_pop 18 = .ok (.aload_n 0, 1) := by decide +kernel
theorem d_Mo_pop_19 : decode b_Mo_pop 19 = .ok (.getfield 81, 3) := by decide +kernel
theorem d_Mo_pop_22 : decode b_Mo_pop 22 = .ok (.iload_n 1, 1) := by decide +kernel
theorem d_Mo_pop_23 : decode b_Mo_pop 23 = .ok (.iaload, 1) := by decide +kernel
theorem d_Mo_pop_24 : decode b_Mo_pop 24 = .ok (.iadd, 1) := by decide +kernel
theorem d_Mo_pop_25 : decode b_Mo_pop 25 = .ok (.iaload, 1) := by decide +kernel
theorem d_Mo_pop_26 : decode b_Mo_pop 26 = .ok (.ireturn, 1) := by decide +kernel
def f_Mo_pop (x0 : Nat) (x1 : Int32) (M : fm_M) : Option (Int32 × fm_M) :=
  (gr x0 10 30).bind fun q101 =>
  (ai q101 x1 M).bind fun x103 =>
  (si q101 x1 (x103 - 1) M).bind fun M105 =>
  (gr x0 10 32).bind fun q107 =>
  (gr x0 10 30).bind fun q109 =>
  (ai q109 x1 M105).bind fun x111 =>
  (ai q107 ((6 * x1) + x111) M105).bind fun x113 =>
  some (x113, M105)
set_option maxHeartbeats 4000000 in
set_option maxRecDepth 100000 in
theorem c_Mo_pop (l : Launch) (G : fm_G) (x0 : Nat) (x1 : Int32) {v : Int32} {M M' : fm_M} (h : f_Mo_pop x0 x1 M = some (v, M')) : kMet l y_Mo_pop b_Mo_pop 2 (some .int) rm_Mo_pop G M [.ref (G.2.2 + x0), .int x1] (some (.int v)) M' := by
  refine r_met (by decide) rfl (Nat.le_of_ble_eq_true rfl) (fun p e s m args below meth c C0 hP ls hl => ?_)
  have hx := C0.1
  have hb := C0.2.1
  have hl : lv_has ls 2 [(0, .ref (G.2.2 + x0)), (1, .int x1)] := hl
  have hS : va_S (fm_A G.2.2) s.heap s.heap [] := va_S.rf
  unfold f_Mo_pop at h
  refine lv_aload_n hx hb d_Mo_pop_0 rfl (lv_at hl 0 rfl) ?_
  obtain ⟨q101, e102, h⟩ := ob h
  refine k_gr C0 F_Mo_81 hP e102 d_Mo_pop_1 ?_
  refine lv_iload_n hx hb d_Mo_pop_4 rfl (lv_at hl 1 rfl) ?_
  refine lv_dup2_11 hx hb d_Mo_pop_5 rfl rfl ?_
  obtain ⟨x103, e104, h⟩ := ob h
  refine k_ai C0 hP e104 d_Mo_pop_6 ?_
  refine lv_iconst (v := 1) hx hb d_Mo_pop_7 ic_1 ?_
  refine lv_isub hx hb d_Mo_pop_8 ?_
  obtain ⟨M105, e106, h⟩ := ob h
  refine k_si C0 hP hS e106 d_Mo_pop_9 (fun H locs hP hS => ?_)
  refine lv_aload_n hx hb d_Mo_pop_10 rfl (lv_at hl 0 rfl) ?_
  obtain ⟨q107, e108, h⟩ := ob h
  refine k_gr C0 F_Mo_87 hP e108 d_Mo_pop_11 ?_
  refine lv_bipush (v := 6) hx hb d_Mo_pop_14 bp_6 ?_
  refine lv_iload_n hx hb d_Mo_pop_16 rfl (lv_at hl 1 rfl) ?_
  refine lv_imul hx hb d_Mo_pop_17 ?_
  refine lv_aload_n hx hb d_Mo_pop_18 rfl (lv_at hl 0 rfl) ?_
  obtain ⟨q109, e110, h⟩ := ob h
  refine k_gr C0 F_Mo_81 hP e110 d_Mo_pop_19 ?_
  refine lv_iload_n hx hb d_Mo_pop_22 rfl (lv_at hl 1 rfl) ?_
  obtain ⟨x111, e112, h⟩ := ob h
  refine k_ai C0 hP e112 d_Mo_pop_23 ?_
  refine lv_iadd hx hb d_Mo_pop_24 ?_
  obtain ⟨x113, e114, h⟩ := ob h
  refine k_ai C0 hP e114 d_Mo_pop_25 ?_
  cases h
  exact r_iret C0 hP hS d_Mo_pop_26
/-! AllocationProfilerModel.handler -/
def rm_Mo_handler : Room := { frames := 0, cells := 0, slots := 0, locals := 0 }
theorem d_Mo_handler_0 : decode b_Mo_handler 0 = .ok (.iconst 0, 1) := by decide +kernel
theorem d_Mo_handler_1 : decode b_Mo_handler 1 = .ok (.istore_n 3, 1) := by decide +kernel
theorem d_Mo_handler_2 : decode b_Mo_handler 2 = .ok (.iload_n 3, 1) := by decide +kernel
theorem d_Mo_handler_3 : decode b_Mo_handler 3 = .ok (.aload_n 0, 1) := by decide +kernel
theorem d_Mo_handler_4 : decode b_Mo_handler 4 = .ok (.getfield 42, 3) := by decide +kernel
theorem d_Mo_handler_7 : decode b_Mo_handler 7 = .ok (.iload_n 1, 1) := by decide +kernel
theorem d_Mo_handler_8 : decode b_Mo_handler 8 = .ok (.iaload, 1) := by decide +kernel
theorem d_Mo_handler_9 : decode b_Mo_handler 9 = .ok (.if_icmp .ge 53, 3) := by decide +kernel
theorem d_Mo_handler_12 : decode b_Mo_handler 12 = .ok (.bipush 6, 2) := by decide +kernel
theorem d_Mo_handler_14 : decode b_Mo_handler 14 = .ok (.iload_n 1, 1) := by decide +kernel
theorem d_Mo_handler_15 : decode b_Mo_handler 15 = .ok (.imul, 1) := by decide +kernel
theorem d_Mo_handler_16 : decode b_Mo_handler 16 = .ok (.iconst 3, 1) := by decide +kernel
theorem d_Mo_handler_17 : decode b_Mo_handler 17 = .ok (.iload_n 3, 1) := by decide +kernel
theorem d_Mo_handler_18 : decode b_Mo_handler 18 = .ok (.imul, 1) := by decide +kernel
theorem d_Mo_handler_19 : decode b_Mo_handler 19 = .ok (.iadd, 1) := by decide +kernel
theorem d_Mo_handler_20 : decode b_Mo_handler 20 = .ok (.istore 4, 2) := by decide +kernel
theorem d_Mo_handler_22 : decode b_Mo_handler 22 = .ok (.iload_n 2, 1) := by decide +kernel
theorem d_Mo_handler_23 : decode b_Mo_handler 23 = .ok (.aload_n 0, 1) := by decide +kernel
theorem d_Mo_handler_24 : decode b_Mo_handler 24 = .ok (.getfield 57, 3) := by decide +kernel
theorem d_Mo_handler_27 : decode b_Mo_handler 27 = .ok (.iload 4, 2) := by decide +kernel
theorem d_Mo_handler_29 : decode b_Mo_handler 29 = .ok (.iaload, 1) := by decide +kernel
theorem d_Mo_handler_30 : decode b_Mo_handler 30 = .ok (.if_icmp .lt 26, 3) := by decide +kernel
theorem d_Mo_handler_33 : decode b_Mo_handler 33 = .ok (.iload_n 2, 1) := by decide +kernel
theorem d_Mo_handler_34 : decode b_Mo_handler 34 = .ok (.aload_n 0, 1) := by decide +kernel
theorem d_Mo_handler_35 : decode b_Mo_handler 35 = .ok (.getfield 57, 3) := by decide +kernel
theorem d_Mo_handler_38 : decode b_Mo_handler 38 = .ok (.iload 4, 2) := by decide +kernel
theorem d_Mo_handler_40 : decode b_Mo_handler 40 = .ok (.iconst 1, 1) := by decide +kernel
theorem d_Mo_handler_41 : decode b_Mo_handler 41 = .ok (.iadd, 1) := by decide +kernel
theorem d_Mo_handler_42 : decode b_Mo_handler 42 = .ok (.iaload, 1) := by decide +kernel
theorem d_Mo_handler_43 : decode b_Mo_handler 43 = .ok (.if_icmp .ge 13, 3) := by decide +kernel
theorem d_Mo_handler_46 : decode b_Mo_handler 46 = .ok (.aload_n 0, 1) := by decide +kernel
theorem d_Mo_handler_47 : decode b_Mo_handler 47 = .ok (.getfield 57, 3) := by decide +kernel
theorem d_Mo_handler_50 : decode b_Mo_handler 50 = .ok (.iload 4, 2) := by decide +kernel
theorem d_Mo_handler_52 : decode b_Mo_handler 52 = .ok (.iconst 2, 1) := by decide +kernel
theorem d_Mo_handler_53 : decode b_Mo_handler 53 = .ok (.iadd, 1) := by decide +kernel
theorem d_Mo_handler_54 : decode b_Mo_handler 54 = .ok (.iaload, 1) := by decide +kernel
theorem d_Mo_handler_55 : decode b_Mo_handler 55 = .ok (.ireturn, 1) := by decide +kernel
theorem d_Mo_handler_56 : decode b_Mo_handler 56 = .ok (.iinc 3 1, 3) := by decide +kernel
theorem d_Mo_handler_59 : decode b_Mo_handler 59 = .ok (.goto (-57), 3) := by decide +kernel
theorem d_Mo_handler_62 : decode b_Mo_handler 62 = .ok (.iconst (-1), 1) := by decide +kernel
theorem d_Mo_handler_63 : decode b_Mo_handler 63 = .ok (.ireturn, 1) := by decide +kernel
def j_Mo_handler_56 (k2 : Nat → Int32 → Int32 → Int32 → fm_M → Option (Int32 × fm_M)) (x0 : Nat) (x1 : Int32) (x2 : Int32) (x3 : Int32) (M : fm_M) : Option (Int32 × fm_M) :=
  k2 x0 x1 x2 (x3 + 1) M
def h_Mo_handler_2 : Nat → Nat → Int32 → Int32 → Int32 → fm_M → Option (Int32 × fm_M)
  | 0, _, _, _, _, _ => none
  | n + 1, x0, x1, x2, x3, M =>
    (gr x0 10 16).bind fun q101 =>
    (ai q101 x1 M).bind fun x103 =>
    if x103 ≤ x3 then
      some ((-1), M)
    else
      (gr x0 10 21).bind fun q106 =>
      (ai q106 ((6 * x1) + (3 * x3)) M).bind fun x108 =>
      if x2 < x108 then
        j_Mo_handler_56 (h_Mo_handler_2 n) x0 x1 x2 x3 M
      else
        (gr x0 10 21).bind fun q111 =>
        (ai q111 (((6 * x1) + (3 * x3)) + 1) M).bind fun x113 =>
        if x113 ≤ x2 then
          j_Mo_handler_56 (h_Mo_handler_2 n) x0 x1 x2 x3 M
        else
          (gr x0 10 21).bind fun q116 =>
          (ai q116 (((6 * x1) + (3 * x3)) + 2) M).bind fun x118 =>
          some (x118, M)
def f_Mo_handler (x0 : Nat) (x1 : Int32) (x2 : Int32) (M : fm_M) : Option (Int32 × fm_M) :=
  h_Mo_handler_2 100000 x0 x1 x2 0 M
set_option maxHeartbeats 4000000 in
set_option maxRecDepth 100000 in
theorem w_Mo_handler_56 {p : Program} {l : Launch} {e : Env} {s : State} {m : MethodId} {args : Array Value} {below : List Frame} {meth : Method} {c : Code} {G : fm_G} (C0 : fm_C p s m args meth c G (.code y_Mo_handler b_Mo_handler 5 (some .int)) "AllocationProfilerModel" b_Mo_handler 5 (some .int)) {v : Int32} {M' : fm_M} (k2 : Nat → Int32 → Int32 → Int32 → fm_M → Option (Int32 × fm_M)) (hk2 : ∀ (x0 : Nat) (x1 : Int32) (x2 : Int32) (x3 : Int32) {M : fm_M} {H : Heap} {locs : List Loc}, kP G M H → kS G s H locs → ∀ {ls : Array Slot}, lv_has ls 5 [(0, .ref (G.2.2 + x0)), (1, .int x1), (2, .int x2), (3, .int x3)] → k2 x0 x1 x2 x3 M = some (v, M') → W p l e rm_Mo_handler s m args below meth c H locs 0 0 (MQ below (fm_Q G 212 shF (some (.int v)) M') args s 0 0 (fm_A G.2.2)) (F0 m 2 ls [])) (x0 : Nat) (x1 : Int32) (x2 : Int32) (x3 : Int32) {M : fm_M} {H : Heap} {locs : List Loc} (hP : kP G M H) (hS : kS G s H locs) {ls : Array Slot} (hl : lv_has ls 5 [(0, .ref (G.2.2 + x0)), (1, .int x1), (2, .int x2), (3, .int x3)]) (h : j_Mo_handler_56 k2 x0 x1 x2 x3 M = some (v, M')) : W p l e rm_Mo_handler s m args below meth c H locs 0 0 (MQ below (fm_Q G 212 shF (some (.int v)) M') args s 0 0 (fm_A G.2.2)) (F0 m 56 ls []) := by
  have hx := C0.1
  have hb := C0.2.1
  unfold j_Mo_handler_56 at h
  refine lv_iinc (v := (x3 + 1)) (lv' := [(3, .int (x3 + 1)), (0, .ref (G.2.2 + x0)), (1, .int x1), (2, .int x2)]) hx hb d_Mo_handler_56 hl (k := 3) rfl (congrArg (fun z => x3 + z) ic_1) (by decide) rfl (fun ls hl => ?_)
  refine lv_goto (tgt := 2) hx hb d_Mo_handler_59 (by decide) ?_
  exact hk2 x0 x1 x2 (x3 + 1) hP hS (lv_sub hl [1, 2, 3, 0] rfl) h
set_option maxHeartbeats 4000000 in
set_option maxRecDepth 100000 in
theorem w_Mo_handler_2 {p : Program} {l : Launch} {e : Env} {s : State} {m : MethodId} {args : Array Value} {below : List Frame} {meth : Method} {c : Code} {G : fm_G} (C0 : fm_C p s m args meth c G (.code y_Mo_handler b_Mo_handler 5 (some .int)) "AllocationProfilerModel" b_Mo_handler 5 (some .int)) {v : Int32} {M' : fm_M} : ∀ (n : Nat) (x0 : Nat) (x1 : Int32) (x2 : Int32) (x3 : Int32) {M : fm_M} {H : Heap} {locs : List Loc}, kP G M H → kS G s H locs → ∀ {ls : Array Slot}, lv_has ls 5 [(0, .ref (G.2.2 + x0)), (1, .int x1), (2, .int x2), (3, .int x3)] → h_Mo_handler_2 n x0 x1 x2 x3 M = some (v, M') → W p l e rm_Mo_handler s m args below meth c H locs 0 0 (MQ below (fm_Q G 212 shF (some (.int v)) M') args s 0 0 (fm_A G.2.2)) (F0 m 2 ls []) := by
  have hx := C0.1
  have hb := C0.2.1
  intro n
  induction n with
  | zero =>
    intro x0 x1 x2 x3 M H locs hP hS ls hl h
    exact nomatch h
  | succ n ih =>
    intro x0 x1 x2 x3 M H locs hP hS ls hl h
    have h : ((gr x0 10 16).bind fun q101 =>
      (ai q101 x1 M).bind fun x103 =>
      if x103 ≤ x3 then
        some ((-1), M)
      else
        (gr x0 10 21).bind fun q106 =>
        (ai q106 ((6 * x1) + (3 * x3)) M).bind fun x108 =>
        if x2 < x108 then
          j_Mo_handler_56 (h_Mo_handler_2 n) x0 x1 x2 x3 M
        else
          (gr x0 10 21).bind fun q111 =>
          (ai q111 (((6 * x1) + (3 * x3)) + 1) M).bind fun x113 =>
          if x113 ≤ x2 then
            j_Mo_handler_56 (h_Mo_handler_2 n) x0 x1 x2 x3 M
          else
            (gr x0 10 21).bind fun q116 =>
            (ai q116 (((6 * x1) + (3 * x3)) + 2) M).bind fun x118 =>
            some (x118, M)) = some (v, M') := h
    refine lv_iload_n hx hb d_Mo_handler_2 rfl (lv_at hl 3 rfl) ?_
    refine lv_aload_n hx hb d_Mo_handler_3 rfl (lv_at hl 0 rfl) ?_
    obtain ⟨q101, e102, h⟩ := ob h
    refine k_gr C0 F_Mo_42 hP e102 d_Mo_handler_4 ?_
    refine lv_iload_n hx hb d_Mo_handler_7 rfl (lv_at hl 1 rfl) ?_
    obtain ⟨x103, e104, h⟩ := ob h
    refine k_ai C0 hP e104 d_Mo_handler_8 ?_
    refine lv_icmp_ge (tgt := 62) hx hb d_Mo_handler_9 (by decide) (fun c105 => ?_) (fun c105 => ?_)
    · rw [if_pos c105] at h
      refine lv_iconst (v := (-1)) hx hb d_Mo_handler_62 ic_m1 ?_
      cases h
      exact r_iret C0 hP hS d_Mo_handler_63
    · rw [if_neg c105] at h
      refine lv_bipush (v := 6) hx hb d_Mo_handler_12 bp_6 ?_
      refine lv_iload_n hx hb d_Mo_handler_14 rfl (lv_at hl 1 rfl) ?_
      refine lv_imul hx hb d_Mo_handler_15 ?_
      refine lv_iconst (v := 3) hx hb d_Mo_handler_16 ic_3 ?_
      refine lv_iload_n hx hb d_Mo_handler_17 rfl (lv_at hl 3 rfl) ?_
      refine lv_imul hx hb d_Mo_handler_18 ?_
      refine lv_iadd hx hb d_Mo_handler_19 ?_
      refine lv_istore (lv' := [(4, .int ((6 * x1) + (3 * x3))), (0, .ref (G.2.2 + x0)), (1, .int x1), (2, .int x2), (3, .int x3)]) hx hb d_Mo_handler_20 hl (by decide) rfl (fun ls hl => ?_)
      refine lv_iload_n hx hb d_Mo_handler_22 rfl (lv_at hl 3 rfl) ?_
      refine lv_aload_n hx hb d_Mo_handler_23 rfl (lv_at hl 1 rfl) ?_
      obtain ⟨q106, e107, h⟩ := ob h
      refine k_gr C0 F_Mo_57 hP e107 d_Mo_handler_24 ?_
      refine lv_iload hx hb d_Mo_handler_27 (lv_at hl 0 rfl) ?_
      obtain ⟨x108, e109, h⟩ := ob h
      refine k_ai C0 hP e109 d_Mo_handler_29 ?_
      refine lv_icmp_lt (tgt := 56) hx hb d_Mo_handler_30 (by decide) (fun c110 => ?_) (fun c110 => ?_)
      · rw [if_pos c110] at h
        exact w_Mo_handler_56 C0 (h_Mo_handler_2 n) ih x0 x1 x2 x3 hP hS (lv_sub hl [1, 2, 3, 4] rfl) h
      · rw [if_neg c110] at h
        refine lv_iload_n hx hb d_Mo_handler_33 rfl (lv_at hl 3 rfl) ?_
        refine lv_aload_n hx hb d_Mo_handler_34 rfl (lv_at hl 1 rfl) ?_
        obtain ⟨q111, e112, h⟩ := ob h
        refine k_gr C0 F_Mo_57 hP e112 d_Mo_handler_35 ?_
        refine lv_iload hx hb d_Mo_handler_38 (lv_at hl 0 rfl) ?_
        refine lv_iconst (v := 1) hx hb d_Mo_handler_40 ic_1 ?_
        refine lv_iadd hx hb d_Mo_handler_41 ?_
        obtain ⟨x113, e114, h⟩ := ob h
        refine k_ai C0 hP e114 d_Mo_handler_42 ?_
        refine lv_icmp_ge (tgt := 56) hx hb d_Mo_handler_43 (by decide) (fun c115 => ?_) (fun c115 => ?_)
        · rw [if_pos c115] at h
          exact w_Mo_handler_56 C0 (h_Mo_handler_2 n) ih x0 x1 x2 x3 hP hS (lv_sub hl [1, 2, 3, 4] rfl) h
        · rw [if_neg c115] at h
          refine lv_aload_n hx hb d_Mo_handler_46 rfl (lv_at hl 1 rfl) ?_
          obtain ⟨q116, e117, h⟩ := ob h
          refine k_gr C0 F_Mo_57 hP e117 d_Mo_handler_47 ?_
          refine lv_iload hx hb d_Mo_handler_50 (lv_at hl 0 rfl) ?_
          refine lv_iconst (v := 2) hx hb d_Mo_handler_52 ic_2 ?_
          refine lv_iadd hx hb d_Mo_handler_53 ?_
          obtain ⟨x118, e119, h⟩ := ob h
          refine k_ai C0 hP e119 d_Mo_handler_54 ?_
          cases h
          exact r_iret C0 hP hS d_Mo_handler_55
set_option maxHeartbeats 4000000 in
set_option maxRecDepth 100000 in
theorem c_Mo_handler (l : Launch) (G : fm_G) (x0 : Nat) (x1 : Int32) (x2 : Int32) {v : Int32} {M M' : fm_M} (h : f_Mo_handler x0 x1 x2 M = some (v, M')) : kMet l y_Mo_handler b_Mo_handler 5 (some .int) rm_Mo_handler G M [.ref (G.2.2 + x0), .int x1, .int x2] (some (.int v)) M' := by
  refine r_met (by decide) rfl (Nat.le_of_ble_eq_true rfl) (fun p e s m args below meth c C0 hP ls hl => ?_)
  have hx := C0.1
  have hb := C0.2.1
  have hl : lv_has ls 5 [(0, .ref (G.2.2 + x0)), (1, .int x1), (2, .int x2)] := hl
  have hS : va_S (fm_A G.2.2) s.heap s.heap [] := va_S.rf
  unfold f_Mo_handler at h
  refine lv_iconst (v := 0) hx hb d_Mo_handler_0 ic_0 ?_
  refine lv_istore_n (lv' := [(3, .int 0), (0, .ref (G.2.2 + x0)), (1, .int x1), (2, .int x2)]) hx hb d_Mo_handler_1 rfl hl (by decide) rfl (fun ls hl => ?_)
  exact w_Mo_handler_2 C0 100000 x0 x1 x2 0 hP hS (lv_sub hl [1, 2, 3, 0] rfl) h
/-! AllocationProfilerModel.raise -/
def rm_Mo_raise : Room := { frames := 1, cells := 0, slots := 0, locals := 24 }
theorem d_Mo_raise_0 : decode b_Mo_raise 0 = .ok (.aload_n 0, 1) := by decide +kernel
theorem d_Mo_raise_1 : decode b_Mo_raise 1 = .ok (.getfield 66, 3) := by decide +kernel
theorem d_Mo_raise_4 : decode b_Mo_raise 4 = .ok (.iload_n 1, 1) := by decide +kernel
theorem d_Mo_raise_5 : decode b_Mo_raise 5 = .ok (.iaload, 1) := by decide +kernel
theorem d_Mo_raise_6 : decode b_Mo_raise 6 = .ok (.ifCond .le 76, 3) := by decide +kernel
theorem d_Mo_raise_9 : decode b_Mo_raise 9 = .ok (.iconst 5, 1) := by decide +kernel
theorem d_Mo_raise_10 : decode b_Mo_raise 10 = .ok (.iload_n 1, 1) := by decide +kernel
theorem d_Mo_raise_11 : decode b_Mo_raise 11 = .ok (.imul, 1) := by decide +kernel
theorem d_Mo_raise_12 : decode b_Mo_raise 12 = .ok (.aload_n 0, 1) := by decide +kernel
theorem d_Mo_raise_13 : decode b_Mo_raise 13 = .ok (.getfield 66, 3) := by decide +kernel
theorem d_Mo_raise_16 : decode b_Mo_raise 16 = .ok (.iload_n 1, 1) := by decide +kernel
theorem d_Mo_raise_17 : decode b_Mo_raise 17 = .ok (.iaload, 1) := by decide +kernel
theorem d_Mo_raise_18 : decode b_Mo_raise 18 = .ok (.iadd, 1) := by decide +kernel
theorem d_Mo_raise_19 : decode b_Mo_raise 19 = .ok (.iconst 1, 1) := by decide +kernel
theorem d_Mo_raise_20 : decode b_Mo_raise 20 = .ok (.isub, 1) := by decide +kernel
theorem d_Mo_raise_21 : decode b_Mo_raise 21 = .ok (.istore_n 3, 1) := by decide +kernel
theorem d_Mo_raise_22 : decode b_Mo_raise 22 = .ok (.aload_n 0, 1) := by decide +kernel
theorem d_Mo_raise_23 : decode b_Mo_raise 23 = .ok (.aload_n 0, 1) := by decide +kernel
theorem d_Mo_raise_24 : decode b_Mo_raise 24 = .ok (.getfield 75, 3) := by decide +kernel
theorem d_Mo_raise_27 : decode b_Mo_raise 27 = .ok (.iload_n 3, 1) := by decide +kernel
theorem d_Mo_raise_28 : decode b_Mo_raise 28 = .ok (.iaload, 1) := by decide +kernel
theorem d_Mo_raise_29 : decode b_Mo_raise 29 = .ok (.aload_n 0, 1) := by decide +kernel
theorem d_Mo_raise_30 : decode b_Mo_raise 30 = .ok (.getfield 78, 3) := by decide +kernel
theorem d_Mo_raise_33 : decode b_Mo_raise 33 = .ok (.iload_n 3, 1) := by decide +kernel
theorem d_Mo_raise_34 : decode b_Mo_raise 34 = .ok (.iaload, 1) := by decide +kernel
theorem d_Mo_raise_35 : decode b_Mo_raise 35 = .ok (.iconst 1, 1) := by decide +kernel
theorem d_Mo_raise_36 : decode b_Mo_raise 36 = .ok (.isub, 1) := by decide +kernel
theorem d_Mo_raise_37 : decode b_Mo_raise 37 = .ok (.invokevirtual 206, 3) := by decide +kernel
theorem d_Mo_raise_40 : decode b_Mo_raise 40 = .ok (.istore 4, 2) := by decide +kernel
theorem d_Mo_raise_42 : decode b_Mo_raise 42 = .ok (.iload 4, 2) := by decide +kernel
theorem d_Mo_raise_44 : decode b_Mo_raise 44 = .ok (.ifCond .lt 25, 3) := by decide +kernel
theorem d_Mo_raise_47 : decode b_Mo_raise 47 = .ok (.aload_n 0, 1) := by decide +kernel
theorem d_Mo_raise_48 : decode b_Mo_raise 48 = .ok (.getfield 81, 3) := by decide +kernel
theorem d_Mo_raise_51 : decode b_Mo_raise 51 = .ok (.iload_n 3, 1) := by decide +kernel
theorem d_Mo_raise_52 : decode b_Mo_raise 52 = .ok (.iconst 0, 1) := by decide +kernel
theorem d_Mo_raise_53 : decode b_Mo_raise 53 = .ok (.iastore, 1) := by decide +kernel
theorem d_Mo_raise_54 : decode b_Mo_raise 54 = .ok (.aload_n 0, 1) := by decide +kernel
theorem d_Mo_raise_55 : decode b_Mo_raise 55 = .ok (.iload_n 3, 1) := by decide +kernel
theorem d_Mo_raise_56 : decode b_Mo_raise 56 = .ok (.iload_n 2, 1) := by decide +kernel
theorem d_Mo_raise_57 : decode b_Mo_raise 57 = .ok (.invokevirtual 209, 3) := by decide +kernel
theorem d_Mo_raise_60 : decode b_Mo_raise 60 = .ok (.aload_n 0, 1) := by decide +kernel
theorem d_Mo_raise_61 : decode b_Mo_raise 61 = .ok (.getfield 78, 3) := by decide +kernel
theorem d_Mo_raise_64 : decode b_Mo_raise 64 = .ok (.iload_n 3, 1) := by decide +kernel
theorem d_Mo_raise_65 : decode b_Mo_raise 65 = .ok (.iload 4, 2) := by decide +kernel
theorem d_Mo_raise_67 : decode b_Mo_raise 67 = .ok (.iastore, 1) := by decide +kernel
theorem d_Mo_raise_68 : decode b_Mo_raise 68 = .ok (.return_, 1) := by decide +kernel
theorem d_Mo_raise_69 : decode b_Mo_raise 69 = .ok (.aload_n 0, 1) := by decide +kernel
theorem d_Mo_raise_70 : decode b_Mo_raise 70 = .ok (.getfield 66, 3) := by decide +kernel
theorem d_Mo_raise_73 : decode b_Mo_raise 73 = .ok (.iload_n 1, 1) := by decide +kernel
theorem d_Mo_raise_74 : decode b_Mo_raise 74 = .ok (.dup2, 1) := by decide +kernel
theorem d_Mo_raise_75 : decode b_Mo_raise 75 = .ok (.iaload, 1) := by decide +kernel
theorem d_Mo_raise_76 : decode b_Mo_raise 76 = .ok (.iconst 1, 1) := by decide +kernel
theorem d_Mo_raise_77 : decode b_Mo_raise 77 = .ok (.isub, 1) := by decide +kernel
theorem d_Mo_raise_78 : decode b_Mo_raise 78 = .ok (.iastore, 1) := by decide +kernel
theorem d_Mo_raise_79 : decode b_Mo_raise 79 = .ok (.goto (-79), 3) := by decide +kernel
theorem d_Mo_raise_82 : decode b_Mo_raise 82 = .ok (.aload_n 0, 1) := by decide +kernel
theorem d_Mo_raise_83 : decode b_Mo_raise 83 = .ok (.getfield 69, 3) := by decide +kernel
theorem d_Mo_raise_86 : decode b_Mo_raise 86 = .ok (.iload_n 1, 1) := by decide +kernel
theorem d_Mo_raise_87 : decode b_Mo_raise 87 = .ok (.iconst 3, 1) := by decide +kernel
theorem d_Mo_raise_88 : decode b_Mo_raise 88 = .ok (.iastore, 1) := by decide +kernel
theorem d_Mo_raise_89 : decode b_Mo_raise 89 = .ok (.aload_n 0, 1) := by decide +kernel
theorem d_Mo_raise_90 : decode b_Mo_raise 90 = .ok (.getfield 72, 3) := by decide +kernel
theorem d_Mo_raise_93 : decode b_Mo_raise 93 = .ok (.iload_n 1, 1) := by decide +kernel
theorem d_Mo_raise_94 : decode b_Mo_raise 94 = .ok (.iload_n 2, 1) := by decide +kernel
theorem d_Mo_raise_95 : decode b_Mo_raise 95 = .ok (.iastore, 1) := by decide +kernel
theorem d_Mo_raise_96 : decode b_Mo_raise 96 = .ok (.return_, 1) := by decide +kernel
def h_Mo_raise_0 : Nat → Nat → Int32 → Int32 → fm_M → Option fm_M
  | 0, _, _, _, _ => none
  | n + 1, x0, x1, x2, M =>
    (gr x0 10 25).bind fun q101 =>
    (ai q101 x1 M).bind fun x103 =>
    if x103 ≤ 0 then
      (gr x0 10 26).bind fun q106 =>
      (si q106 x1 3 M).bind fun M108 =>
      (gr x0 10 27).bind fun q110 =>
      (si q110 x1 x2 M108).bind fun M112 =>
      some M112
    else
      (gr x0 10 25).bind fun q114 =>
      (ai q114 x1 M).bind fun x116 =>
      (gr x0 10 28).bind fun q118 =>
      (ai q118 (((5 * x1) + x116) - 1) M).bind fun x120 =>
      (gr x0 10 29).bind fun q122 =>
      (ai q122 (((5 * x1) + x116) - 1) M).bind fun x124 =>
      (ck x0 10).bind fun _ =>
      bd (f_Mo_handler x0 x120 (x124 - 1) M) fun x129 M127 =>
      if x129 < 0 then
        (gr x0 10 25).bind fun q131 =>
        (ai q131 x1 M127).bind fun x133 =>
        (si q131 x1 (x133 - 1) M127).bind fun M135 =>
        h_Mo_raise_0 n x0 x1 x2 M135
      else
        (gr x0 10 30).bind fun q137 =>
        (si q137 (((5 * x1) + x116) - 1) 0 M127).bind fun M139 =>
        (ck x0 10).bind fun _ =>
        (f_Mo_push x0 (((5 * x1) + x116) - 1) x2 M139).bind fun M142 =>
        (gr x0 10 29).bind fun q144 =>
        (si q144 (((5 * x1) + x116) - 1) x129 M142).bind fun M146 =>
        some M146
def f_Mo_raise (x0 : Nat) (x1 : Int32) (x2 : Int32) (M : fm_M) : Option fm_M :=
  h_Mo_raise_0 100000 x0 x1 x2 M
set_option maxHeartbeats 4000000 in
set_option maxRecDepth 100000 in
theorem w_Mo_raise_0 {p : Program} {l : Launch} {e : Env} {s : State} {m : MethodId} {args : Array Value} {below : List Frame} {meth : Method} {c : Code} {G : fm_G} (C0 : fm_C p s m args meth c G (.code y_Mo_raise b_Mo_raise 5 none) "AllocationProfilerModel" b_Mo_raise 5 none) {M' : fm_M} : ∀ (n : Nat) (x0 : Nat) (x1 : Int32) (x2 : Int32) {M : fm_M} {H : Heap} {locs : List Loc}, kP G M H → kS G s H locs → ∀ {ls : Array Slot}, lv_has ls 5 [(0, .ref (G.2.2 + x0)), (1, .int x1), (2, .int x2)] → h_Mo_raise_0 n x0 x1 x2 M = some M' → W p l e rm_Mo_raise s m args below meth c H locs 0 0 (MQ below (fm_Q G 212 shF none M') args s 0 0 (fm_A G.2.2)) (F0 m 0 ls []) := by
  have hx := C0.1
  have hb := C0.2.1
  intro n
  induction n with
  | zero =>
    intro x0 x1 x2 M H locs hP hS ls hl h
    exact nomatch h
  | succ n ih =>
    intro x0 x1 x2 M H locs hP hS ls hl h
    have h : ((gr x0 10 25).bind fun q101 =>
      (ai q101 x1 M).bind fun x103 =>
      if x103 ≤ 0 then
        (gr x0 10 26).bind fun q106 =>
        (si q106 x1 3 M).bind fun M108 =>
        (gr x0 10 27).bind fun q110 =>
        (si q110 x1 x2 M108).bind fun M112 =>
        some M112
      else
        (gr x0 10 25).bind fun q114 =>
        (ai q114 x1 M).bind fun x116 =>
        (gr x0 10 28).bind fun q118 =>
        (ai q118 (((5 * x1) + x116) - 1) M).bind fun x120 =>
        (gr x0 10 29).bind fun q122 =>
        (ai q122 (((5 * x1) + x116) - 1) M).bind fun x124 =>
        (ck x0 10).bind fun _ =>
        bd (f_Mo_handler x0 x120 (x124 - 1) M) fun x129 M127 =>
        if x129 < 0 then
          (gr x0 10 25).bind fun q131 =>
          (ai q131 x1 M127).bind fun x133 =>
          (si q131 x1 (x133 - 1) M127).bind fun M135 =>
          h_Mo_raise_0 n x0 x1 x2 M135
        else
          (gr x0 10 30).bind fun q137 =>
          (si q137 (((5 * x1) + x116) - 1) 0 M127).bind fun M139 =>
          (ck x0 10).bind fun _ =>
          (f_Mo_push x0 (((5 * x1) + x116) - 1) x2 M139).bind fun M142 =>
          (gr x0 10 29).bind fun q144 =>
          (si q144 (((5 * x1) + x116) - 1) x129 M142).bind fun M146 =>
          some M146) = some M' := h
    refine lv_aload_n hx hb d_Mo_raise_0 rfl (lv_at hl 0 rfl) ?_
    obtain ⟨q101, e102, h⟩ := ob h
    refine k_gr C0 F_Mo_66 hP e102 d_Mo_raise_1 ?_
    refine lv_iload_n hx hb d_Mo_raise_4 rfl (lv_at hl 1 rfl) ?_
    obtain ⟨x103, e104, h⟩ := ob h
    refine k_ai C0 hP e104 d_Mo_raise_5 ?_
    refine lv_if_le (tgt := 82) hx hb d_Mo_raise_6 (by decide) (fun c105 => ?_) (fun c105 => ?_)
    · rw [if_pos c105] at h
      refine lv_aload_n hx hb d_Mo_raise_82 rfl (lv_at hl 0 rfl) ?_
      obtain ⟨q106, e107, h⟩ := ob h
      refine k_gr C0 F_Mo_69 hP e107 d_Mo_raise_83 ?_
      refine lv_iload_n hx hb d_Mo_raise_86 rfl (lv_at hl 1 rfl) ?_
      refine lv_iconst (v := 3) hx hb d_Mo_raise_87 ic_3 ?_
      obtain ⟨M108, e109, h⟩ := ob h
      refine k_si C0 hP hS e109 d_Mo_raise_88 (fun H locs hP hS => ?_)
      refine lv_aload_n hx hb d_Mo_raise_89 rfl (lv_at hl 0 rfl) ?_
      obtain ⟨q110, e111, h⟩ := ob h
      refine k_gr C0 F_Mo_72 hP e111 d_Mo_raise_90 ?_
      refine lv_iload_n hx hb d_Mo_raise_93 rfl (lv_at hl 1 rfl) ?_
      refine lv_iload_n hx hb d_Mo_raise_94 rfl (lv_at hl 2 rfl) ?_
      obtain ⟨M112, e113, h⟩ := ob h
      refine k_si C0 hP hS e113 d_Mo_raise_95 (fun H locs hP hS => ?_)
      cases h
      exact r_vret C0 hP hS d_Mo_raise_96
    · rw [if_neg c105] at h
      refine lv_iconst (v := 5) hx hb d_Mo_raise_9 ic_5 ?_
      refine lv_iload_n hx hb d_Mo_raise_10 rfl (lv_at hl 1 rfl) ?_
      refine lv_imul hx hb d_Mo_raise_11 ?_
      refine lv_aload_n hx hb d_Mo_raise_12 rfl (lv_at hl 0 rfl) ?_
      obtain ⟨q114, e115, h⟩ := ob h
      refine k_gr C0 F_Mo_66 hP e115 d_Mo_raise_13 ?_
      refine lv_iload_n hx hb d_Mo_raise_16 rfl (lv_at hl 1 rfl) ?_
      obtain ⟨x116, e117, h⟩ := ob h
      refine k_ai C0 hP e117 d_Mo_raise_17 ?_
      refine lv_iadd hx hb d_Mo_raise_18 ?_
      refine lv_iconst (v := 1) hx hb d_Mo_raise_19 ic_1 ?_
      refine lv_isub hx hb d_Mo_raise_20 ?_
      refine lv_istore_n (lv' := [(3, .int (((5 * x1) + x116) - 1)), (0, .ref (G.2.2 + x0)), (1, .int x1), (2, .int x2)]) hx hb d_Mo_raise_21 rfl hl (by decide) rfl (fun ls hl => ?_)
      refine lv_aload_n hx hb d_Mo_raise_22 rfl (lv_at hl 1 rfl) ?_
      refine lv_aload_n hx hb d_Mo_raise_23 rfl (lv_at hl 1 rfl) ?_
      obtain ⟨q118, e119, h⟩ := ob h
      refine k_gr C0 F_Mo_75 hP e119 d_Mo_raise_24 ?_
      refine lv_iload_n hx hb d_Mo_raise_27 rfl (lv_at hl 0 rfl) ?_
      obtain ⟨x120, e121, h⟩ := ob h
      refine k_ai C0 hP e121 d_Mo_raise_28 ?_
      refine lv_aload_n hx hb d_Mo_raise_29 rfl (lv_at hl 1 rfl) ?_
      obtain ⟨q122, e123, h⟩ := ob h
      refine k_gr C0 F_Mo_78 hP e123 d_Mo_raise_30 ?_
      refine lv_iload_n hx hb d_Mo_raise_33 rfl (lv_at hl 0 rfl) ?_
      obtain ⟨x124, e125, h⟩ := ob h
      refine k_ai C0 hP e125 d_Mo_raise_34 ?_
      refine lv_iconst (v := 1) hx hb d_Mo_raise_35 ic_1 ?_
      refine lv_isub hx hb d_Mo_raise_36 ?_
      obtain ⟨_, e126, h⟩ := ob h
      obtain ⟨x129, M127, e128, h⟩ := ob2 h
      refine k_cV C0 L_Mo_206 (As := [.int x120, .int (x124 - 1)]) (c_Mo_handler l G x0 x120 (x124 - 1) e128) ⟨rfl, rfl⟩ ⟨Nat.le_of_ble_eq_true rfl, Nat.le_of_ble_eq_true rfl⟩ hP hS (ck_of e126) ly_Mo rfl hl.1 rfl (Nat.le_of_ble_eq_true rfl) d_Mo_raise_37 ⟨Nat.zero_le _, Nat.zero_le _⟩ (fun H locs hP hS => ?_)
      refine lv_istore (lv' := [(4, .int x129), (3, .int (((5 * x1) + x116) - 1)), (0, .ref (G.2.2 + x0)), (1, .int x1), (2, .int x2)]) hx hb d_Mo_raise_40 hl (by decide) rfl (fun ls hl => ?_)
      refine lv_iload hx hb d_Mo_raise_42 (lv_at hl 0 rfl) ?_
      refine lv_if_lt (tgt := 69) hx hb d_Mo_raise_44 (by decide) (fun c130 => ?_) (fun c130 => ?_)
      · rw [if_pos c130] at h
        refine lv_aload_n hx hb d_Mo_raise_69 rfl (lv_at hl 2 rfl) ?_
        obtain ⟨q131, e132, h⟩ := ob h
        refine k_gr C0 F_Mo_66 hP e132 d_Mo_raise_70 ?_
        refine lv_iload_n hx hb d_Mo_raise_73 rfl (lv_at hl 3 rfl) ?_
        refine lv_dup2_11 hx hb d_Mo_raise_74 rfl rfl ?_
        obtain ⟨x133, e134, h⟩ := ob h
        refine k_ai C0 hP e134 d_Mo_raise_75 ?_
        refine lv_iconst (v := 1) hx hb d_Mo_raise_76 ic_1 ?_
        refine lv_isub hx hb d_Mo_raise_77 ?_
        obtain ⟨M135, e136, h⟩ := ob h
        refine k_si C0 hP hS e136 d_Mo_raise_78 (fun H locs hP hS => ?_)
        refine lv_goto (tgt := 0) hx hb d_Mo_raise_79 (by decide) ?_
        exact ih x0 x1 x2 hP hS (lv_sub hl [2, 3, 4] rfl) h
      · rw [if_neg c130] at h
        refine lv_aload_n hx hb d_Mo_raise_47 rfl (lv_at hl 2 rfl) ?_
        obtain ⟨q137, e138, h⟩ := ob h
        refine k_gr C0 F_Mo_81 hP e138 d_Mo_raise_48 ?_
        refine lv_iload_n hx hb d_Mo_raise_51 rfl (lv_at hl 1 rfl) ?_
        refine lv_iconst (v := 0) hx hb d_Mo_raise_52 ic_0 ?_
        obtain ⟨M139, e140, h⟩ := ob h
        refine k_si C0 hP hS e140 d_Mo_raise_53 (fun H locs hP hS => ?_)
        refine lv_aload_n hx hb d_Mo_raise_54 rfl (lv_at hl 2 rfl) ?_
        refine lv_iload_n hx hb d_Mo_raise_55 rfl (lv_at hl 1 rfl) ?_
        refine lv_iload_n hx hb d_Mo_raise_56 rfl (lv_at hl 4 rfl) ?_
        obtain ⟨_, e141, h⟩ := ob h
        obtain ⟨M142, e143, h⟩ := ob h
        refine k_cVv C0 L_Mo_209 (As := [.int (((5 * x1) + x116) - 1), .int x2]) (c_Mo_push l G x0 (((5 * x1) + x116) - 1) x2 e143) ⟨rfl, rfl⟩ ⟨Nat.le_of_ble_eq_true rfl, Nat.le_of_ble_eq_true rfl⟩ hP hS (ck_of e141) ly_Mo rfl hl.1 rfl (Nat.le_of_ble_eq_true rfl) d_Mo_raise_57 ⟨Nat.zero_le _, Nat.zero_le _⟩ (fun H locs hP hS => ?_)
        refine lv_aload_n hx hb d_Mo_raise_60 rfl (lv_at hl 2 rfl) ?_
        obtain ⟨q144, e145, h⟩ := ob h
        refine k_gr C0 F_Mo_78 hP e145 d_Mo_raise_61 ?_
        refine lv_iload_n hx hb d_Mo_raise_64 rfl (lv_at hl 1 rfl) ?_
        refine lv_iload hx hb d_Mo_raise_65 (lv_at hl 0 rfl) ?_
        obtain ⟨M146, e147, h⟩ := ob h
        refine k_si C0 hP hS e147 d_Mo_raise_67 (fun H locs hP hS => ?_)
        cases h
        exact r_vret C0 hP hS d_Mo_raise_68
set_option maxHeartbeats 4000000 in
set_option maxRecDepth 100000 in
theorem c_Mo_raise (l : Launch) (G : fm_G) (x0 : Nat) (x1 : Int32) (x2 : Int32) {M M' : fm_M} (h : f_Mo_raise x0 x1 x2 M = some M') : kMet l y_Mo_raise b_Mo_raise 5 none rm_Mo_raise G M [.ref (G.2.2 + x0), .int x1, .int x2] none M' := by
  refine r_met (by decide) rfl (Nat.le_of_ble_eq_true rfl) (fun p e s m args below meth c C0 hP ls hl => ?_)
  have hx := C0.1
  have hb := C0.2.1
  have hl : lv_has ls 5 [(0, .ref (G.2.2 + x0)), (1, .int x1), (2, .int x2)] := hl
  have hS : va_S (fm_A G.2.2) s.heap s.heap [] := va_S.rf
  unfold f_Mo_raise at h
  exact w_Mo_raise_0 C0 100000 x0 x1 x2 hP hS (lv_sub hl [0, 1, 2] rfl) h
/-! AllocationProfilerModel.stackOf -/
def rm_Mo_stackOf : Room := { frames := 0, cells := 0, slots := 0, locals := 0 }
theorem d_Mo_stackOf_0 : decode b_Mo_stackOf 0 = .ok (.iconst 0, 1) := by decide +kernel
theorem d_Mo_stackOf_1 : decode b_Mo_stackOf 1 = .ok (.istore_n 2, 1) := by decide +kernel
theorem d_Mo_stackOf_2 : decode b_Mo_stackOf 2 = .ok (.iconst 0, 1) := by decide +kernel
theorem d_Mo_stackOf_3 : decode b_Mo_stackOf 3 = .ok (.istore_n 3, 1) := by decide +kernel
theorem d_Mo_stackOf_4 : decode b_Mo_stackOf 4 = .ok (.iload_n 3, 1) := by decide +kernel
theorem d_Mo_stackOf_5 : decode b_Mo_stackOf 5 = .ok (.aload_n 0, 1) := by decide +kernel
theorem d_Mo_stackOf_6 : decode b_Mo_stackOf 6 = .ok (.getfield 66, 3) := by decide +kernel
theorem d_Mo_stackOf_9 : decode b_Mo_stackOf 9 = .ok (.iload_n 1, 1) := by decide +kernel
theorem d_Mo_stackOf_10 : decode b_Mo_stackOf 10 = .ok (.iaload, 1) := by decide +kernel
theorem d_Mo_stackOf_11 : decode b_Mo_stackOf 11 = .ok (.if_icmp .ge 31, 3) := by decide +kernel
theorem d_Mo_stackOf_14 : decode b_Mo_stackOf 14 = .ok (.bipush 8, 2) := by decide +kernel
theorem d_Mo_stackOf_16 : decode b_Mo_stackOf 16 = .ok (.iload_n 2, 1) := by decide +kernel
theorem d_Mo_stackOf_17 : decode b_Mo_stackOf 17 = .ok (.imul, 1) := by decide +kernel
theorem d_Mo_stackOf_18 : decode b_Mo_stackOf 18 = .ok (.aload_n 0, 1) := by decide +kernel
theorem d_Mo_stackOf_19 : decode b_Mo_stackOf 19 = .ok (.getfield 75, 3) := by decide +kernel
theorem d_Mo_stackOf_22 : decode b_Mo_stackOf 22 = .ok (.iconst 5, 1) := by decide +kernel
theorem d_Mo_stackOf_23 : decode b_Mo_stackOf 23 = .ok (.iload_n 1, 1) := by decide +kernel
theorem d_Mo_stackOf_24 : decode b_Mo_stackOf 24 = .ok (.imul, 1) := by decide +kernel
theorem d_Mo_stackOf_25 : decode b_Mo_stackOf 25 = .ok (.iload_n 3, 1) := by decide +kernel
theorem d_Mo_stackOf_26 : decode b_Mo_stackOf 26 = .ok (.iadd, 1) := by decide +kernel
theorem d_Mo_stackOf_27 : decode b_Mo_stackOf 27 = .ok (.iaload, 1) := by decide +kernel
theorem d_Mo_stackOf_28 : decode b_Mo_stackOf 28 = .ok (.iadd, 1) := by decide +kernel
theorem d_Mo_stackOf_29 : decode b_Mo_stackOf 29 = .ok (.iconst 1, 1) := by decide +kernel
theorem d_Mo_stackOf_30 : decode b_Mo_stackOf 30 = .ok (.iadd, 1) := by decide +kernel
theorem d_Mo_stackOf_31 : decode b_Mo_stackOf 31 = .ok (.sipush 4096, 3) := by decide +kernel
theorem d_Mo_stackOf_34 : decode b_Mo_stackOf 34 = .ok (.irem, 1) := by decide +kernel
theorem d_Mo_stackOf_35 : decode b_Mo_stackOf 35 = .ok (.istore_n 2, 1) := by decide +kernel
theorem d_Mo_stackOf_36 : decode b_Mo_stackOf 36 = .ok (.iinc 3 1, 3) := by decide +kernel
theorem d_Mo_stackOf_39 : decode b_Mo_stackOf 39 = .ok (.goto (-35), 3) := by decide +kernel
theorem d_Mo_stackOf_42 : decode b_Mo_stackOf 42 = .ok (.iload_n 2, 1) := by decide +kernel
theorem d_Mo_stackOf_43 : decode b_Mo_stackOf 43 = .ok (.ireturn, 1) := by decide +kernel
def h_Mo_stackOf_4 : Nat → Nat → Int32 → Int32 → Int32 → fm_M → Option (Int32 × fm_M)
  | 0, _, _, _, _, _ => none
  | n + 1, x0, x1, x2, x3, M =>
    (gr x0 10 25).bind fun q101 =>
    (ai q101 x1 M).bind fun x103 =>
    if x103 ≤ x3 then
      some (x2, M)
    else
      (gr x0 10 28).bind fun q106 =>
      (ai q106 ((5 * x1) + x3) M).bind fun x108 =>
      h_Mo_stackOf_4 n x0 x1 ((((8 * x2) + x108) + 1) - (((8 * x2) + x108) + 1) / 4096 * 4096) (x3 + 1) M
def f_Mo_stackOf (x0 : Nat) (x1 : Int32) (M : fm_M) : Option (Int32 × fm_M) :=
  h_Mo_stackOf_4 100000 x0 x1 0 0 M
set_option maxHeartbeats 4000000 in
set_option maxRecDepth 100000 in
theorem w_Mo_stackOf_4 {p : Program} {l : Launch} {e : Env} {s : State} {m : MethodId} {args : Array Value} {below : List Frame} {meth : Method} {c : Code} {G : fm_G} (C0 : fm_C p s m args meth c G (.code y_Mo_stackOf b_Mo_stackOf 4 (some .int)) "AllocationProfilerModel" b_Mo_stackOf 4 (some .int)) {v : Int32} {M' : fm_M} : ∀ (n : Nat) (x0 : Nat) (x1 : Int32) (x2 : Int32) (x3 : Int32) {M : fm_M} {H : Heap} {locs : List Loc}, kP G M H → kS G s H locs → ∀ {ls : Array Slot}, lv_has ls 4 [(0, .ref (G.2.2 + x0)), (1, .int x1), (2, .int x2), (3, .int x3)] → h_Mo_stackOf_4 n x0 x1 x2 x3 M = some (v, M') → W p l e rm_Mo_stackOf s m args below meth c H locs 0 0 (MQ below (fm_Q G 212 shF (some (.int v)) M') args s 0 0 (fm_A G.2.2)) (F0 m 4 ls []) := by
  have hx := C0.1
  have hb := C0.2.1
  intro n
  induction n with
  | zero =>
    intro x0 x1 x2 x3 M H locs hP hS ls hl h
    exact nomatch h
  | succ n ih =>
    intro x0 x1 x2 x3 M H locs hP hS ls hl h
    have h : ((gr x0 10 25).bind fun q101 =>
      (ai q101 x1 M).bind fun x103 =>
      if x103 ≤ x3 then
        some (x2, M)
      else
        (gr x0 10 28).bind fun q106 =>
        (ai q106 ((5 * x1) + x3) M).bind fun x108 =>
        h_Mo_stackOf_4 n x0 x1 ((((8 * x2) + x108) + 1) - (((8 * x2) + x108) + 1) / 4096 * 4096) (x3 + 1) M) = some (v, M') := h
    refine lv_iload_n hx hb d_Mo_stackOf_4 rfl (lv_at hl 3 rfl) ?_
    refine lv_aload_n hx hb d_Mo_stackOf_5 rfl (lv_at hl 0 rfl) ?_
    obtain ⟨q101, e102, h⟩ := ob h
    refine k_gr C0 F_Mo_66 hP e102 d_Mo_stackOf_6 ?_
    refine lv_iload_n hx hb d_Mo_stackOf_9 rfl (lv_at hl 1 rfl) ?_
    obtain ⟨x103, e104, h⟩ := ob h
    refine k_ai C0 hP e104 d_Mo_stackOf_10 ?_
    refine lv_icmp_ge (tgt := 42) hx hb d_Mo_stackOf_11 (by decide) (fun c105 => ?_) (fun c105 => ?_)
    · rw [if_pos c105] at h
      refine lv_iload_n hx hb d_Mo_stackOf_42 rfl (lv_at hl 2 rfl) ?_
      cases h
      exact r_iret C0 hP hS d_Mo_stackOf_43
    · rw [if_neg c105] at h
      refine lv_bipush (v := 8) hx hb d_Mo_stackOf_14 bp_8 ?_
      refine lv_iload_n hx hb d_Mo_stackOf_16 rfl (lv_at hl 2 rfl) ?_
      refine lv_imul hx hb d_Mo_stackOf_17 ?_
      refine lv_aload_n hx hb d_Mo_stackOf_18 rfl (lv_at hl 0 rfl) ?_
      obtain ⟨q106, e107, h⟩ := ob h
      refine k_gr C0 F_Mo_75 hP e107 d_Mo_stackOf_19 ?_
      refine lv_iconst (v := 5) hx hb d_Mo_stackOf_22 ic_5 ?_
      refine lv_iload_n hx hb d_Mo_stackOf_23 rfl (lv_at hl 1 rfl) ?_
      refine lv_imul hx hb d_Mo_stackOf_24 ?_
      refine lv_iload_n hx hb d_Mo_stackOf_25 rfl (lv_at hl 3 rfl) ?_
      refine lv_iadd hx hb d_Mo_stackOf_26 ?_
      obtain ⟨x108, e109, h⟩ := ob h
      refine k_ai C0 hP e109 d_Mo_stackOf_27 ?_
      refine lv_iadd hx hb d_Mo_stackOf_28 ?_
      refine lv_iconst (v := 1) hx hb d_Mo_stackOf_29 ic_1 ?_
      refine lv_iadd hx hb d_Mo_stackOf_30 ?_
      refine lv_sipush (v := 4096) hx hb d_Mo_stackOf_31 sp_4096 ?_
      refine lv_irem hx hb d_Mo_stackOf_34 (by decide) ?_
      refine lv_istore_n (lv' := [(2, .int ((((8 * x2) + x108) + 1) - (((8 * x2) + x108) + 1) / 4096 * 4096)), (0, .ref (G.2.2 + x0)), (1, .int x1), (3, .int x3)]) hx hb d_Mo_stackOf_35 rfl hl (by decide) rfl (fun ls hl => ?_)
      refine lv_iinc (v := (x3 + 1)) (lv' := [(3, .int (x3 + 1)), (2, .int ((((8 * x2) + x108) + 1) - (((8 * x2) + x108) + 1) / 4096 * 4096)), (0, .ref (G.2.2 + x0)), (1, .int x1)]) hx hb d_Mo_stackOf_36 hl (k := 3) rfl (congrArg (fun z => x3 + z) ic_1) (by decide) rfl (fun ls hl => ?_)
      refine lv_goto (tgt := 4) hx hb d_Mo_stackOf_39 (by decide) ?_
      exact ih x0 x1 ((((8 * x2) + x108) + 1) - (((8 * x2) + x108) + 1) / 4096 * 4096) (x3 + 1) hP hS (lv_sub hl [2, 3, 1, 0] rfl) h
set_option maxHeartbeats 4000000 in
set_option maxRecDepth 100000 in
theorem c_Mo_stackOf (l : Launch) (G : fm_G) (x0 : Nat) (x1 : Int32) {v : Int32} {M M' : fm_M} (h : f_Mo_stackOf x0 x1 M = some (v, M')) : kMet l y_Mo_stackOf b_Mo_stackOf 4 (some .int) rm_Mo_stackOf G M [.ref (G.2.2 + x0), .int x1] (some (.int v)) M' := by
  refine r_met (by decide) rfl (Nat.le_of_ble_eq_true rfl) (fun p e s m args below meth c C0 hP ls hl => ?_)
  have hx := C0.1
  have hb := C0.2.1
  have hl : lv_has ls 4 [(0, .ref (G.2.2 + x0)), (1, .int x1)] := hl
  have hS : va_S (fm_A G.2.2) s.heap s.heap [] := va_S.rf
  unfold f_Mo_stackOf at h
  refine lv_iconst (v := 0) hx hb d_Mo_stackOf_0 ic_0 ?_
  refine lv_istore_n (lv' := [(2, .int 0), (0, .ref (G.2.2 + x0)), (1, .int x1)]) hx hb d_Mo_stackOf_1 rfl hl (by decide) rfl (fun ls hl => ?_)
  refine lv_iconst (v := 0) hx hb d_Mo_stackOf_2 ic_0 ?_
  refine lv_istore_n (lv' := [(3, .int 0), (2, .int 0), (0, .ref (G.2.2 + x0)), (1, .int x1)]) hx hb d_Mo_stackOf_3 rfl hl (by decide) rfl (fun ls hl => ?_)
  exact w_Mo_stackOf_4 C0 100000 x0 x1 0 0 hP hS (lv_sub hl [2, 3, 1, 0] rfl) h
/-! AllocationProfilerModel.sample -/
def rm_Mo_sample : Room := { frames := 0, cells := 0, slots := 0, locals := 0 }
theorem d_Mo_sample_0 : decode b_Mo_sample 0 = .ok (.iconst 0, 1) := by decide +kernel
theorem d_Mo_sample_1 : decode b_Mo_sample 1 = .ok (.istore_n 3, 1) := by decide +kernel
theorem d_Mo_sample_2 : decode b_Mo_sample 2 = .ok (.iload_n 3, 1) := by decide +kernel
theorem d_Mo_sample_3 : decode b_Mo_sample 3 = .ok (.aload_n 0, 1) := by decide +kernel
theorem d_Mo_sample_4 : decode b_Mo_sample 4 = .ok (.getfield 219, 3) := by decide +kernel
theorem d_Mo_sample_7 : decode b_Mo_sample 7 = .ok (.if_icmp .ge 40, 3) := by decide +kernel
theorem d_Mo_sample_10 : decode b_Mo_sample 10 = .ok (.aload_n 0, 1) := by decide +kernel
theorem d_Mo_sample_11 : decode b_Mo_sample 11 = .ok (.getfield 113, 3) := by decide +kernel
theorem d_Mo_sample_14 : decode b_Mo_sample 14 = .ok (.iload_n 3, 1) := by decide +kernel
theorem d_Mo_sample_15 : decode b_Mo_sample 15 = .ok (.iaload, 1) := by decide +kernel
theorem d_Mo_sample_16 : decode b_Mo_sample 16 = .ok (.iload_n 1, 1) := by decide +kernel
theorem d_Mo_sample_17 : decode b_Mo_sample 17 = .ok (.if_icmp .ne 24, 3) := by decide +kernel
theorem d_Mo_sample_20 : decode b_Mo_sample 20 = .ok (.aload_n 0, 1) := by decide +kernel
theorem d_Mo_sample_21 : decode b_Mo_sample 21 = .ok (.getfield 116, 3) := by decide +kernel
theorem d_Mo_sample_24 : decode b_Mo_sample 24 = .ok (.iload_n 3, 1) := by decide +kernel
theorem d_Mo_sample_25 : decode b_Mo_sample 25 = .ok (.iaload, 1) := by decide +kernel
theorem d_Mo_sample_26 : decode b_Mo_sample 26 = .ok (.iload_n 2, 1) := by decide +kernel
theorem d_Mo_sample_27 : decode b_Mo_sample 27 = .ok (.if_icmp .ne 14, 3) := by decide +kernel
theorem d_Mo_sample_30 : decode b_Mo_sample 30 = .ok (.aload_n 0, 1) := by decide +kernel
theorem d_Mo_sample_31 : decode b_Mo_sample 31 = .ok (.getfield 119, 3) := by decide +kernel
theorem d_Mo_sample_34 : decode b_Mo_sample 34 = .ok (.iload_n 3, 1) := by decide +kernel
theorem d_Mo_sample_35 : decode b_Mo_sample 35 = .ok (.dup2, 1) := by decide +kernel
theorem d_Mo_sample_36 : decode b_Mo_sample 36 = .ok (.iaload, 1) := by decide +kernel
theorem d_Mo_sample_37 : decode b_Mo_sample 37 = .ok (.iconst 1, 1) := by decide +kernel
theorem d_Mo_sample_38 : decode b_Mo_sample 38 = .ok (.iadd, 1) := by decide +kernel
theorem d_Mo_sample_39 : decode b_Mo_sample 39 = .ok (.iastore, 1) := by decide +kernel
theorem d_Mo_sample_40 : decode b_Mo_sample 40 = .ok (.return_, 1) := by decide +kernel
theorem d_Mo_sample_41 : decode b_Mo_sample 41 = .ok (.iinc 3 1, 3) := by decide +kernel
theorem d_Mo_sample_44 : decode b_Mo_sample 44 = .ok (.goto (-42), 3) := by decide +kernel
theorem d_Mo_sample_47 : decode b_Mo_sample 47 = .ok (.aload_n 0, 1) := by decide +kernel
theorem d_Mo_sample_48 : decode b_Mo_sample 48 = .ok (.getfield 219, 3) := by decide +kernel
theorem d_Mo_sample_51 : decode b_Mo_sample 51 = .ok (.bipush 16, 2) := by decide +kernel
theorem d_Mo_sample_53 : decode b_Mo_sample 53 = .ok (.if_icmp .ne 4, 3) := by decide +kernel
theorem d_Mo_sample_56 : decode b_Mo_sample 56 = .ok (.return_, 1) := by decide +kernel
theorem d_Mo_sample_57 : decode b_Mo_sample 57 = .ok (.aload_n 0, 1) := by decide +kernel
theorem d_Mo_sample_58 : decode b_Mo_sample 58 = .ok (.getfield 113, 3) := by decide +kernel
theorem d_Mo_sample_61 : decode b_Mo_sample 61 = .ok (.aload_n 0, 1) := by decide +kernel
theorem d_Mo_sample_62 : decode b_Mo_sample 62 = .ok (.getfield 219, 3) := by decide +kernel
theorem d_Mo_sample_65 : decode b_Mo_sample 65 = .ok (.iload_n 1, 1) := by decide +kernel
theorem d_Mo_sample_66 : decode b_Mo_sample 66 = .ok (.iastore, 1) := by decide +kernel
theorem d_Mo_sample_67 : decode b_Mo_sample 67 = .ok (.aload_n 0, 1) := by decide +kernel
theorem d_Mo_sample_68 : decode b_Mo_sample 68 = .ok (.getfield 116, 3) := by decide +kernel
theorem d_Mo_sample_71 : decode b_Mo_sample 71 = .ok (.aload_n 0, 1) := by decide +kernel
theorem d_Mo_sample_72 : decode b_Mo_sample 72 = .ok (.getfield 219, 3) := by decide +kernel
theorem d_Mo_sample_75 : decode b_Mo_sample 75 = .ok (.iload_n 2, 1) := by decide +kernel
theorem d_Mo_sample_76 : decode b_Mo_sample 76 = .ok (.iastore, 1) := by decide +kernel
theorem d_Mo_sample_77 : decode b_Mo_sample 77 = .ok (.aload_n 0, 1) := by decide +kernel
theorem d_Mo_sample_78 : decode b_Mo_sample 78 = .ok (.getfield 119, 3) := by decide +kernel
theorem d_Mo_sample_81 : decode b_Mo_sample 81 = .ok (.aload_n 0, 1) := by decide +kernel
theorem d_Mo_sample_82 : decode b_Mo_sample 82 = .ok (.getfield 219, 3) := by decide +kernel
theorem d_Mo_sample_85 : decode b_Mo_sample 85 = .ok (.iconst 1, 1) := by decide +kernel
theorem d_Mo_sample_86 : decode b_Mo_sample 86 = .ok (.iastore, 1) := by decide +kernel
theorem d_Mo_sample_87 : decode b_Mo_sample 87 = .ok (.aload_n 0, 1) := by decide +kernel
theorem d_Mo_sample_88 : decode b_Mo_sample 88 = .ok (.dup, 1) := by decide +kernel
theorem d_Mo_sample_89 : decode b_Mo_sample 89 = .ok (.getfield 219, 3) := by decide +kernel
theorem d_Mo_sample_92 : decode b_Mo_sample 92 = .ok (.iconst 1, 1) := by decide +kernel
theorem d_Mo_sample_93 : decode b_Mo_sample 93 = .ok (.iadd, 1) := by decide +kernel
theorem d_Mo_sample_94 : decode b_Mo_sample 94 = .ok (.putfield 219, 3) := by decide +kernel
theorem d_Mo_sample_97 : decode b_Mo_sample 97 = .ok (.return_, 1) := by decide +kernel
def j_Mo_sample_41 (k2 : Nat → Int32 → Int32 → Int32 → fm_M → Option fm_M) (x0 : Nat) (x1 : Int32) (x2 : Int32) (x3 : Int32) (M : fm_M) : Option fm_M :=
  k2 x0 x1 x2 (x3 + 1) M
def h_Mo_sample_2 : Nat → Nat → Int32 → Int32 → Int32 → fm_M → Option fm_M
  | 0, _, _, _, _, _ => none
  | n + 1, x0, x1, x2, x3, M =>
    (gi x0 10 44 M).bind fun x101 =>
    if x101 ≤ x3 then
      (gi x0 10 44 M).bind fun x104 =>
      if x104 = 16 then
        some M
      else
        (gr x0 10 45).bind fun q107 =>
        (gi x0 10 44 M).bind fun x109 =>
        (si q107 x109 x1 M).bind fun M111 =>
        (gr x0 10 46).bind fun q113 =>
        (gi x0 10 44 M111).bind fun x115 =>
        (si q113 x115 x2 M111).bind fun M117 =>
        (gr x0 10 47).bind fun q119 =>
        (gi x0 10 44 M117).bind fun x121 =>
        (si q119 x121 1 M117).bind fun M123 =>
        (gi x0 10 44 M123).bind fun x125 =>
        (pi x0 10 44 (x125 + 1) M123).bind fun M127 =>
        some M127
    else
      (gr x0 10 45).bind fun q129 =>
      (ai q129 x3 M).bind fun x131 =>
      if x131 = x1 then
        (gr x0 10 46).bind fun q134 =>
        (ai q134 x3 M).bind fun x136 =>
        if x136 = x2 then
          (gr x0 10 47).bind fun q139 =>
          (ai q139 x3 M).bind fun x141 =>
          (si q139 x3 (x141 + 1) M).bind fun M143 =>
          some M143
        else
          j_Mo_sample_41 (h_Mo_sample_2 n) x0 x1 x2 x3 M
      else
        j_Mo_sample_41 (h_Mo_sample_2 n) x0 x1 x2 x3 M
def f_Mo_sample (x0 : Nat) (x1 : Int32) (x2 : Int32) (M : fm_M) : Option fm_M :=
  h_Mo_sample_2 100000 x0 x1 x2 0 M
set_option maxHeartbeats 4000000 in
set_option maxRecDepth 100000 in
theorem w_Mo_sample_41 {p : Program} {l : Launch} {e : Env} {s : State} {m : MethodId} {args : Array Value} {below : List Frame} {meth : Method} {c : Code} {G : fm_G} (C0 : fm_C p s m args meth c G (.code y_Mo_sample b_Mo_sample 4 none) "AllocationProfilerModel" b_Mo_sample 4 none) {M' : fm_M} (k2 : Nat → Int32 → Int32 → Int32 → fm_M → Option fm_M) (hk2 : ∀ (x0 : Nat) (x1 : Int32) (x2 : Int32) (x3 : Int32) {M : fm_M} {H : Heap} {locs : List Loc}, kP G M H → kS G s H locs → ∀ {ls : Array Slot}, lv_has ls 4 [(0, .ref (G.2.2 + x0)), (1, .int x1), (2, .int x2), (3, .int x3)] → k2 x0 x1 x2 x3 M = some M' → W p l e rm_Mo_sample s m args below meth c H locs 0 0 (MQ below (fm_Q G 212 shF none M') args s 0 0 (fm_A G.2.2)) (F0 m 2 ls [])) (x0 : Nat) (x1 : Int32) (x2 : Int32) (x3 : Int32) {M : fm_M} {H : Heap} {locs : List Loc} (hP : kP G M H) (hS : kS G s H locs) {ls : Array Slot} (hl : lv_has ls 4 [(0, .ref (G.2.2 + x0)), (1, .int x1), (2, .int x2), (3, .int x3)]) (h : j_Mo_sample_41 k2 x0 x1 x2 x3 M = some M') : W p l e rm_Mo_sample s m args below meth c H locs 0 0 (MQ below (fm_Q G 212 shF none M') args s 0 0 (fm_A G.2.2)) (F0 m 41 ls []) := by
  have hx := C0.1
  have hb := C0.2.1
  unfold j_Mo_sample_41 at h
  refine lv_iinc (v := (x3 + 1)) (lv' := [(3, .int (x3 + 1)), (0, .ref (G.2.2 + x0)), (1, .int x1), (2, .int x2)]) hx hb d_Mo_sample_41 hl (k := 3) rfl (congrArg (fun z => x3 + z) ic_1) (by decide) rfl (fun ls hl => ?_)
  refine lv_goto (tgt := 2) hx hb d_Mo_sample_44 (by decide) ?_
  exact hk2 x0 x1 x2 (x3 + 1) hP hS (lv_sub hl [1, 2, 3, 0] rfl) h
set_option maxHeartbeats 4000000 in
set_option maxRecDepth 100000 in
theorem w_Mo_sample_2 {p : Program} {l : Launch} {e : Env} {s : State} {m : MethodId} {args : Array Value} {below : List Frame} {meth : Method} {c : Code} {G : fm_G} (C0 : fm_C p s m args meth c G (.code y_Mo_sample b_Mo_sample 4 none) "AllocationProfilerModel" b_Mo_sample 4 none) {M' : fm_M} : ∀ (n : Nat) (x0 : Nat) (x1 : Int32) (x2 : Int32) (x3 : Int32) {M : fm_M} {H : Heap} {locs : List Loc}, kP G M H → kS G s H locs → ∀ {ls : Array Slot}, lv_has ls 4 [(0, .ref (G.2.2 + x0)), (1, .int x1), (2, .int x2), (3, .int x3)] → h_Mo_sample_2 n x0 x1 x2 x3 M = some M' → W p l e rm_Mo_sample s m args below meth c H locs 0 0 (MQ below (fm_Q G 212 shF none M') args s 0 0 (fm_A G.2.2)) (F0 m 2 ls []) := by
  have hx := C0.1
  have hb := C0.2.1
  intro n
  induction n with
  | zero =>
    intro x0 x1 x2 x3 M H locs hP hS ls hl h
    exact nomatch h
  | succ n ih =>
    intro x0 x1 x2 x3 M H locs hP hS ls hl h
    have h : ((gi x0 10 44 M).bind fun x101 =>
      if x101 ≤ x3 then
        (gi x0 10 44 M).bind fun x104 =>
        if x104 = 16 then
          some M
        else
          (gr x0 10 45).bind fun q107 =>
          (gi x0 10 44 M).bind fun x109 =>
          (si q107 x109 x1 M).bind fun M111 =>
          (gr x0 10 46).bind fun q113 =>
          (gi x0 10 44 M111).bind fun x115 =>
          (si q113 x115 x2 M111).bind fun M117 =>
          (gr x0 10 47).bind fun q119 =>
          (gi x0 10 44 M117).bind fun x121 =>
          (si q119 x121 1 M117).bind fun M123 =>
          (gi x0 10 44 M123).bind fun x125 =>
          (pi x0 10 44 (x125 + 1) M123).bind fun M127 =>
          some M127
      else
        (gr x0 10 45).bind fun q129 =>
        (ai q129 x3 M).bind fun x131 =>
        if x131 = x1 then
          (gr x0 10 46).bind fun q134 =>
          (ai q134 x3 M).bind fun x136 =>
          if x136 = x2 then
            (gr x0 10 47).bind fun q139 =>
            (ai q139 x3 M).bind fun x141 =>
            (si q139 x3 (x141 + 1) M).bind fun M143 =>
            some M143
          else
            j_Mo_sample_41 (h_Mo_sample_2 n) x0 x1 x2 x3 M
        else
          j_Mo_sample_41 (h_Mo_sample_2 n) x0 x1 x2 x3 M) = some M' := h
    refine lv_iload_n hx hb d_Mo_sample_2 rfl (lv_at hl 3 rfl) ?_
    refine lv_aload_n hx hb d_Mo_sample_3 rfl (lv_at hl 0 rfl) ?_
    obtain ⟨x101, e102, h⟩ := ob h
    refine k_gi C0 F_Mo_219 ik_10_44 hP e102 d_Mo_sample_4 ?_
    refine lv_icmp_ge (tgt := 47) hx hb d_Mo_sample_7 (by decide) (fun c103 => ?_) (fun c103 => ?_)
    · rw [if_pos c103] at h
      refine lv_aload_n hx hb d_Mo_sample_47 rfl (lv_at hl 0 rfl) ?_
      obtain ⟨x104, e105, h⟩ := ob h
      refine k_gi C0 F_Mo_219 ik_10_44 hP e105 d_Mo_sample_48 ?_
      refine lv_bipush (v := 16) hx hb d_Mo_sample_51 bp_16 ?_
      refine lv_icmp_ne (tgt := 57) hx hb d_Mo_sample_53 (by decide) (fun c106 => ?_) (fun c106 => ?_)
      · rw [if_neg c106] at h
        refine lv_aload_n hx hb d_Mo_sample_57 rfl (lv_at hl 0 rfl) ?_
        obtain ⟨q107, e108, h⟩ := ob h
        refine k_gr C0 F_Mo_113 hP e108 d_Mo_sample_58 ?_
        refine lv_aload_n hx hb d_Mo_sample_61 rfl (lv_at hl 0 rfl) ?_
        obtain ⟨x109, e110, h⟩ := ob h
        refine k_gi C0 F_Mo_219 ik_10_44 hP e110 d_Mo_sample_62 ?_
        refine lv_iload_n hx hb d_Mo_sample_65 rfl (lv_at hl 1 rfl) ?_
        obtain ⟨M111, e112, h⟩ := ob h
        refine k_si C0 hP hS e112 d_Mo_sample_66 (fun H locs hP hS => ?_)
        refine lv_aload_n hx hb d_Mo_sample_67 rfl (lv_at hl 0 rfl) ?_
        obtain ⟨q113, e114, h⟩ := ob h
        refine k_gr C0 F_Mo_116 hP e114 d_Mo_sample_68 ?_
        refine lv_aload_n hx hb d_Mo_sample_71 rfl (lv_at hl 0 rfl) ?_
        obtain ⟨x115, e116, h⟩ := ob h
        refine k_gi C0 F_Mo_219 ik_10_44 hP e116 d_Mo_sample_72 ?_
        refine lv_iload_n hx hb d_Mo_sample_75 rfl (lv_at hl 2 rfl) ?_
        obtain ⟨M117, e118, h⟩ := ob h
        refine k_si C0 hP hS e118 d_Mo_sample_76 (fun H locs hP hS => ?_)
        refine lv_aload_n hx hb d_Mo_sample_77 rfl (lv_at hl 0 rfl) ?_
        obtain ⟨q119, e120, h⟩ := ob h
        refine k_gr C0 F_Mo_119 hP e120 d_Mo_sample_78 ?_
        refine lv_aload_n hx hb d_Mo_sample_81 rfl (lv_at hl 0 rfl) ?_
        obtain ⟨x121, e122, h⟩ := ob h
        refine k_gi C0 F_Mo_219 ik_10_44 hP e122 d_Mo_sample_82 ?_
        refine lv_iconst (v := 1) hx hb d_Mo_sample_85 ic_1 ?_
        obtain ⟨M123, e124, h⟩ := ob h
        refine k_si C0 hP hS e124 d_Mo_sample_86 (fun H locs hP hS => ?_)
        refine lv_aload_n hx hb d_Mo_sample_87 rfl (lv_at hl 0 rfl) ?_
        refine lv_dup hx hb d_Mo_sample_88 rfl ?_
        obtain ⟨x125, e126, h⟩ := ob h
        refine k_gi C0 F_Mo_219 ik_10_44 hP e126 d_Mo_sample_89 ?_
        refine lv_iconst (v := 1) hx hb d_Mo_sample_92 ic_1 ?_
        refine lv_iadd hx hb d_Mo_sample_93 ?_
        obtain ⟨M127, e128, h⟩ := ob h
        refine k_pi C0 F_Mo_219p ik_10_44 hP hS e128 d_Mo_sample_94 (fun H locs hP hS => ?_)
        cases h
        exact r_vret C0 hP hS d_Mo_sample_97
      · rw [if_pos c106] at h
        cases h
        exact r_vret C0 hP hS d_Mo_sample_56
    · rw [if_neg c103] at h
      refine lv_aload_n hx hb d_Mo_sample_10 rfl (lv_at hl 0 rfl) ?_
      obtain ⟨q129, e130, h⟩ := ob h
      refine k_gr C0 F_Mo_113 hP e130 d_Mo_sample_11 ?_
      refine lv_iload_n hx hb d_Mo_sample_14 rfl (lv_at hl 3 rfl) ?_
      obtain ⟨x131, e132, h⟩ := ob h
      refine k_ai C0 hP e132 d_Mo_sample_15 ?_
      refine lv_iload_n hx hb d_Mo_sample_16 rfl (lv_at hl 1 rfl) ?_
      refine lv_icmp_ne (tgt := 41) hx hb d_Mo_sample_17 (by decide) (fun c133 => ?_) (fun c133 => ?_)
      · rw [if_neg c133] at h
        exact w_Mo_sample_41 C0 (h_Mo_sample_2 n) ih x0 x1 x2 x3 hP hS (lv_sub hl [0, 1, 2, 3] rfl) h
      · rw [if_pos c133] at h
        refine lv_aload_n hx hb d_Mo_sample_20 rfl (lv_at hl 0 rfl) ?_
        obtain ⟨q134, e135, h⟩ := ob h
        refine k_gr C0 F_Mo_116 hP e135 d_Mo_sample_21 ?_
        refine lv_iload_n hx hb d_Mo_sample_24 rfl (lv_at hl 3 rfl) ?_
        obtain ⟨x136, e137, h⟩ := ob h
        refine k_ai C0 hP e137 d_Mo_sample_25 ?_
        refine lv_iload_n hx hb d_Mo_sample_26 rfl (lv_at hl 2 rfl) ?_
        refine lv_icmp_ne (tgt := 41) hx hb d_Mo_sample_27 (by decide) (fun c138 => ?_) (fun c138 => ?_)
        · rw [if_neg c138] at h
          exact w_Mo_sample_41 C0 (h_Mo_sample_2 n) ih x0 x1 x2 x3 hP hS (lv_sub hl [0, 1, 2, 3] rfl) h
        · rw [if_pos c138] at h
          refine lv_aload_n hx hb d_Mo_sample_30 rfl (lv_at hl 0 rfl) ?_
          obtain ⟨q139, e140, h⟩ := ob h
          refine k_gr C0 F_Mo_119 hP e140 d_Mo_sample_31 ?_
          refine lv_iload_n hx hb d_Mo_sample_34 rfl (lv_at hl 3 rfl) ?_
          refine lv_dup2_11 hx hb d_Mo_sample_35 rfl rfl ?_
          obtain ⟨x141, e142, h⟩ := ob h
          refine k_ai C0 hP e142 d_Mo_sample_36 ?_
          refine lv_iconst (v := 1) hx hb d_Mo_sample_37 ic_1 ?_
          refine lv_iadd hx hb d_Mo_sample_38 ?_
          obtain ⟨M143, e144, h⟩ := ob h
          refine k_si C0 hP hS e144 d_Mo_sample_39 (fun H locs hP hS => ?_)
          cases h
          exact r_vret C0 hP hS d_Mo_sample_40
set_option maxHeartbeats 4000000 in
set_option maxRecDepth 100000 in
theorem c_Mo_sample (l : Launch) (G : fm_G) (x0 : Nat) (x1 : Int32) (x2 : Int32) {M M' : fm_M} (h : f_Mo_sample x0 x1 x2 M = some M') : kMet l y_Mo_sample b_Mo_sample 4 none rm_Mo_sample G M [.ref (G.2.2 + x0), .int x1, .int x2] none M' := by
  refine r_met (by decide) rfl (Nat.le_of_ble_eq_true rfl) (fun p e s m args below meth c C0 hP ls hl => ?_)
  have hx := C0.1
  have hb := C0.2.1
  have hl : lv_has ls 4 [(0, .ref (G.2.2 + x0)), (1, .int x1), (2, .int x2)] := hl
  have hS : va_S (fm_A G.2.2) s.heap s.heap [] := va_S.rf
  unfold f_Mo_sample at h
  refine lv_iconst (v := 0) hx hb d_Mo_sample_0 ic_0 ?_
  refine lv_istore_n (lv' := [(3, .int 0), (0, .ref (G.2.2 + x0)), (1, .int x1), (2, .int x2)]) hx hb d_Mo_sample_1 rfl hl (by decide) rfl (fun ls hl => ?_)
  exact w_Mo_sample_2 C0 100000 x0 x1 x2 0 hP hS (lv_sub hl [1, 2, 3, 0] rfl) h
