/-! AllocationProfilerModel.malformed -/
def rm_Mo_malformed : Room := { frames := 3, cells := 0, slots := 0, locals := 75 }
theorem d_Mo_malformed_0 : decode b_Mo_malformed 0 = .ok (.aload_n 0, 1) := by decide +kernel
theorem d_Mo_malformed_1 : decode b_Mo_malformed 1 = .ok (.getfield 144, 3) := by decide +kernel
theorem d_Mo_malformed_4 : decode b_Mo_malformed 4 = .ok (.ifCond .ne 5, 3) := by decide +kernel
theorem d_Mo_malformed_7 : decode b_Mo_malformed 7 = .ok (.iconst 0, 1) := by decide +kernel
theorem d_Mo_malformed_8 : decode b_Mo_malformed 8 = .ok (.ireturn, 1) := by decide +kernel
theorem d_Mo_malformed_9 : decode b_Mo_malformed 9 = .ok (.iconst 0, 1) := by decide +kernel
theorem d_Mo_malformed_10 : decode b_Mo_malformed 10 = .ok (.istore_n 1, 1) := by decide +kernel
theorem d_Mo_malformed_11 : decode b_Mo_malformed 11 = .ok (.iload_n 1, 1) := by decide +kernel
theorem d_Mo_malformed_12 : decode b_Mo_malformed 12 = .ok (.aload_n 0, 1) := by decide +kernel
theorem d_Mo_malformed_13 : decode b_Mo_malformed 13 = .ok (.getfield 144, 3) := by decide +kernel
theorem d_Mo_malformed_16 : decode b_Mo_malformed 16 = .ok (.if_icmp .ge 30, 3) := by decide +kernel
theorem d_Mo_malformed_19 : decode b_Mo_malformed 19 = .ok (.aload_n 0, 1) := by decide +kernel
theorem d_Mo_malformed_20 : decode b_Mo_malformed 20 = .ok (.aload_n 0, 1) := by decide +kernel
theorem d_Mo_malformed_21 : decode b_Mo_malformed 21 = .ok (.getfield 16, 3) := by decide +kernel
theorem d_Mo_malformed_24 : decode b_Mo_malformed 24 = .ok (.iload_n 1, 1) := by decide +kernel
theorem d_Mo_malformed_25 : decode b_Mo_malformed 25 = .ok (.iaload, 1) := by decide +kernel
theorem d_Mo_malformed_26 : decode b_Mo_malformed 26 = .ok (.aload_n 0, 1) := by decide +kernel
theorem d_Mo_malformed_27 : decode b_Mo_malformed 27 = .ok (.getfield 19, 3) := by decide +kernel
theorem d_Mo_malformed_30 : decode b_Mo_malformed 30 = .ok (.iload_n 1, 1) := by decide +kernel
theorem d_Mo_malformed_31 : decode b_Mo_malformed 31 = .ok (.iaload, 1) := by decide +kernel
theorem d_Mo_malformed_32 : decode b_Mo_malformed 32 = .ok (.invokevirtual 172, 3) := by decide +kernel
theorem d_Mo_malformed_35 : decode b_Mo_malformed 35 = .ok (.ifCond .ne 5, 3) := by decide +kernel
theorem d_Mo_malformed_38 : decode b_Mo_malformed 38 = .ok (.iload_n 1, 1) := by decide +kernel
theorem d_Mo_malformed_39 : decode b_Mo_malformed 39 = .ok (.ireturn, 1) := by decide +kernel
theorem d_Mo_malformed_40 : decode b_Mo_malformed 40 = .ok (.iinc 1 1, 3) := by decide +kernel
theorem d_Mo_malformed_43 : decode b_Mo_malformed 43 = .ok (.goto (-32), 3) := by decide +kernel
theorem d_Mo_malformed_46 : decode b_Mo_malformed 46 = .ok (.aload_n 0, 1) := by decide +kernel
theorem d_Mo_malformed_47 : decode b_Mo_malformed 47 = .ok (.getfield 16, 3) := by decide +kernel
theorem d_Mo_malformed_50 : decode b_Mo_malformed 50 = .ok (.aload_n 0, 1) := by decide +kernel
theorem d_Mo_malformed_51 : decode b_Mo_malformed 51 = .ok (.getfield 144, 3) := by decide +kernel
theorem d_Mo_malformed_54 : decode b_Mo_malformed 54 = .ok (.iconst 1, 1) := by decide +kernel
theorem d_Mo_malformed_55 : decode b_Mo_malformed 55 = .ok (.isub, 1) := by decide +kernel
theorem d_Mo_malformed_56 : decode b_Mo_malformed 56 = .ok (.iaload, 1) := by decide +kernel
theorem d_Mo_malformed_57 : decode b_Mo_malformed 57 = .ok (.invokestatic 163, 3) := by decide +kernel
theorem d_Mo_malformed_60 : decode b_Mo_malformed 60 = .ok (.ifCond .eq 10, 3) := by decide +kernel
theorem d_Mo_malformed_63 : decode b_Mo_malformed 63 = .ok (.aload_n 0, 1) := by decide +kernel
theorem d_Mo_malformed_64 : decode b_Mo_malformed 64 = .ok (.getfield 144, 3) := by decide +kernel
theorem d_Mo_malformed_67 : decode b_Mo_malformed 67 = .ok (.iconst 1, 1) := by decide +kernel
theorem d_Mo_malformed_68 : decode b_Mo_malformed 68 = .ok (.isub, 1) := by decide +kernel
theorem d_Mo_malformed_69 : decode b_Mo_malformed 69 = .ok (.ireturn, 1) := by decide +kernel
theorem d_Mo_malformed_70 : decode b_Mo_malformed 70 = .ok (.iconst 0, 1) := by decide +kernel
theorem d_Mo_malformed_71 : decode b_Mo_malformed 71 = .ok (.istore_n 1, 1) := by decide +kernel
theorem d_Mo_malformed_72 : decode b_Mo_malformed 72 = .ok (.iload_n 1, 1) := by decide +kernel
theorem d_Mo_malformed_73 : decode b_Mo_malformed 73 = .ok (.aload_n 0, 1) := by decide +kernel
theorem d_Mo_malformed_74 : decode b_Mo_malformed 74 = .ok (.getfield 147, 3) := by decide +kernel
theorem d_Mo_malformed_77 : decode b_Mo_malformed 77 = .ok (.if_icmp .ge 71, 3) := by decide +kernel
theorem d_Mo_malformed_80 : decode b_Mo_malformed 80 = .ok (.aload_n 0, 1) := by decide +kernel
theorem d_Mo_malformed_81 : decode b_Mo_malformed 81 = .ok (.getfield 22, 3) := by decide +kernel
theorem d_Mo_malformed_84 : decode b_Mo_malformed 84 = .ok (.iconst 3, 1) := by decide +kernel
theorem d_Mo_malformed_85 : decode b_Mo_malformed 85 = .ok (.iload_n 1, 1) := by decide +kernel
theorem d_Mo_malformed_86 : decode b_Mo_malformed 86 = .ok (.imul, 1) := by decide +kernel
theorem d_Mo_malformed_87 : decode b_Mo_malformed 87 = .ok (.iaload, 1) := by decide +kernel
theorem d_Mo_malformed_88 : decode b_Mo_malformed 88 = .ok (.istore_n 2, 1) := by decide +kernel
theorem d_Mo_malformed_89 : decode b_Mo_malformed 89 = .ok (.aload_n 0, 1) := by decide +kernel
theorem d_Mo_malformed_90 : decode b_Mo_malformed 90 = .ok (.getfield 22, 3) := by decide +kernel
theorem d_Mo_malformed_93 : decode b_Mo_malformed 93 = .ok (.iconst 3, 1) := by decide +kernel
theorem d_Mo_malformed_94 : decode b_Mo_malformed 94 = .ok (.iload_n 1, 1) := by decide +kernel
theorem d_Mo_malformed_95 : decode b_Mo_malformed 95 = .ok (.imul, 1) := by decide +kernel
theorem d_Mo_malformed_96 : decode b_Mo_malformed 96 = .ok (.iconst 1, 1) := by decide +kernel
theorem d_Mo_malformed_97 : decode b_Mo_malformed 97 = .ok (.iadd, 1) := by decide +kernel
theorem d_Mo_malformed_98 : decode b_Mo_malformed 98 = .ok (.iaload, 1) := by decide +kernel
theorem d_Mo_malformed_99 : decode b_Mo_malformed 99 = .ok (.istore_n 3, 1) := by decide +kernel
theorem d_Mo_malformed_100 : decode b_Mo_malformed 100 = .ok (.iload_n 2, 1) := by decide +kernel
theorem d_Mo_malformed_101 : decode b_Mo_malformed 101 = .ok (.ifCond .lt 36, 3) := by decide +kernel
theorem d_Mo_malformed_104 : decode b_Mo_malformed 104 = .ok (.iload_n 2, 1) := by decide +kernel
theorem d_Mo_malformed_105 : decode b_Mo_malformed 105 = .ok (.iload_n 3, 1) := by decide +kernel
theorem d_Mo_malformed_106 : decode b_Mo_malformed 106 = .ok (.if_icmp .ge 31, 3) := by decide +kernel
theorem d_Mo_malformed_109 : decode b_Mo_malformed 109 = .ok (.iload_n 3, 1) := by decide +kernel
theorem d_Mo_malformed_110 : decode b_Mo_malformed 110 = .ok (.aload_n 0, 1) := by decide +kernel
theorem d_Mo_malformed_111 : decode b_Mo_malformed 111 = .ok (.getfield 144, 3) := by decide +kernel
theorem d_Mo_malformed_114 : decode b_Mo_malformed 114 = .ok (.if_icmp .gt 23, 3) := by decide +kernel
theorem d_Mo_malformed_117 : decode b_Mo_malformed 117 = .ok (.aload_n 0, 1) := by decide +kernel
theorem d_Mo_malformed_118 : decode b_Mo_malformed 118 = .ok (.getfield 22, 3) := by decide +kernel
theorem d_Mo_malformed_121 : decode b_Mo_malformed 121 = .ok (.iconst 3, 1) := by decide +kernel
theorem d_Mo_malformed_122 : decode b_Mo_malformed 122 = .ok (.iload_n 1, 1) := by decide +kernel
theorem d_Mo_malformed_123 : decode b_Mo_malformed 123 = .ok (.imul, 1) := by decide +kernel
theorem d_Mo_malformed_124 : decode b_Mo_malformed 124 = .ok (.iconst 2, 1) := by decide +kernel
theorem d_Mo_malformed_125 : decode b_Mo_malformed 125 = .ok (.iadd, 1) := by decide +kernel
theorem d_Mo_malformed_126 : decode b_Mo_malformed 126 = .ok (.iaload, 1) := by decide +kernel
theorem d_Mo_malformed_127 : decode b_Mo_malformed 127 = .ok (.aload_n 0, 1) := by decide +kernel
theorem d_Mo_malformed_128 : decode b_Mo_malformed 128 = .ok (.getfield 144, 3) := by decide +kernel
theorem d_Mo_malformed_131 : decode b_Mo_malformed 131 = .ok (.invokestatic 128, 3) := by decide +kernel
theorem d_Mo_malformed_134 : decode b_Mo_malformed 134 = .ok (.ifCond .eq 8, 3) := by decide +kernel
theorem d_Mo_malformed_137 : decode b_Mo_malformed 137 = .ok (.bipush 24, 2) := by decide +kernel
theorem d_Mo_malformed_139 : decode b_Mo_malformed 139 = .ok (.iload_n 1, 1) := by decide +kernel
theorem d_Mo_malformed_140 : decode b_Mo_malformed 140 = .ok (.iadd, 1) := by decide +kernel
theorem d_Mo_malformed_141 : decode b_Mo_malformed 141 = .ok (.ireturn, 1) := by decide +kernel
theorem d_Mo_malformed_142 : decode b_Mo_malformed 142 = .ok (.iinc 1 1, 3) := by decide +kernel
theorem d_Mo_malformed_145 : decode b_Mo_malformed 145 = .ok (.goto (-73), 3) := by decide +kernel
theorem d_Mo_malformed_148 : decode b_Mo_malformed 148 = .ok (.aload_n 0, 1) := by decide +kernel
theorem d_Mo_malformed_149 : decode b_Mo_malformed 149 = .ok (.invokevirtual 175, 3) := by decide +kernel
theorem d_Mo_malformed_152 : decode b_Mo_malformed 152 = .ok (.ireturn, 1) := by decide +kernel
def h_Mo_malformed_72 : Nat → Nat → Int32 → fm_M → Option (Int32 × fm_M)
  | 0, _, _, _ => none
  | n + 1, x0, x1, M =>
    (gi x0 10 7 M).bind fun x101 =>
    if x101 ≤ x1 then
      (ck x0 10).bind fun _ =>
      bd (f_Mo_badDepth x0 M) fun x107 M105 =>
      some (x107, M105)
    else
      (gr x0 10 8).bind fun q108 =>
      (ai q108 (3 * x1) M).bind fun x110 =>
      (gr x0 10 8).bind fun q112 =>
      (ai q112 ((3 * x1) + 1) M).bind fun x114 =>
      if x110 < 0 then
        some ((24 + x1), M)
      else
        if x114 ≤ x110 then
          some ((24 + x1), M)
        else
          (gi x0 10 4 M).bind fun x118 =>
          if x118 < x114 then
            some ((24 + x1), M)
          else
            (gr x0 10 8).bind fun q121 =>
            (ai q121 ((3 * x1) + 2) M).bind fun x123 =>
            (gi x0 10 4 M).bind fun x125 =>
            bd (f_Mo_out x123 x125 M) fun x129 M127 =>
            if x129 = 0 then
              h_Mo_malformed_72 n x0 (x1 + 1) M127
            else
              some ((24 + x1), M127)
def h_Mo_malformed_11 : Nat → Nat → Int32 → fm_M → Option (Int32 × fm_M)
  | 0, _, _, _ => none
  | n + 1, x0, x1, M =>
    (gi x0 10 4 M).bind fun x131 =>
    if x131 ≤ x1 then
      (gr x0 10 5).bind fun q134 =>
      (gi x0 10 4 M).bind fun x136 =>
      (ai q134 (x136 - 1) M).bind fun x138 =>
      bd (f_Mo_goesOn x138 M) fun x142 M140 =>
      if x142 = 0 then
        h_Mo_malformed_72 100000 x0 0 M140
      else
        (gi x0 10 4 M140).bind fun x144 =>
        some ((x144 - 1), M140)
    else
      (gr x0 10 5).bind fun q146 =>
      (ai q146 x1 M).bind fun x148 =>
      (gr x0 10 6).bind fun q150 =>
      (ai q150 x1 M).bind fun x152 =>
      (ck x0 10).bind fun _ =>
      bd (f_Mo_fits x0 x148 x152 M) fun x157 M155 =>
      if x157 = 0 then
        some (x1, M155)
      else
        h_Mo_malformed_11 n x0 (x1 + 1) M155
def f_Mo_malformed (x0 : Nat) (M : fm_M) : Option (Int32 × fm_M) :=
  (gi x0 10 4 M).bind fun x159 =>
  if x159 = 0 then
    some (0, M)
  else
    h_Mo_malformed_11 100000 x0 0 M
set_option maxHeartbeats 4000000 in
set_option maxRecDepth 100000 in
theorem w_Mo_malformed_72 {p : Program} {l : Launch} {e : Env} {s : State} {m : MethodId} {args : Array Value} {below : List Frame} {meth : Method} {c : Code} {G : fm_G} (C0 : fm_C p s m args meth c G (.code y_Mo_malformed b_Mo_malformed 4 (some .int)) "AllocationProfilerModel" b_Mo_malformed 4 (some .int)) {v : Int32} {M' : fm_M} : ∀ (n : Nat) (x0 : Nat) (x1 : Int32) {M : fm_M} {H : Heap} {locs : List Loc}, kP G M H → kS G s H locs → ∀ {ls : Array Slot}, lv_has ls 4 [(0, .ref (G.2.2 + x0)), (1, .int x1)] → h_Mo_malformed_72 n x0 x1 M = some (v, M') → W p l e rm_Mo_malformed s m args below meth c H locs 0 0 (MQ below (fm_Q G 212 shF (some (.int v)) M') args s 0 0 (fm_A G.2.2)) (F0 m 72 ls []) := by
  have hx := C0.1
  have hb := C0.2.1
  intro n
  induction n with
  | zero =>
    intro x0 x1 M H locs hP hS ls hl h
    exact nomatch h
  | succ n ih =>
    intro x0 x1 M H locs hP hS ls hl h
    have h : ((gi x0 10 7 M).bind fun x101 =>
      if x101 ≤ x1 then
        (ck x0 10).bind fun _ =>
        bd (f_Mo_badDepth x0 M) fun x107 M105 =>
        some (x107, M105)
      else
        (gr x0 10 8).bind fun q108 =>
        (ai q108 (3 * x1) M).bind fun x110 =>
        (gr x0 10 8).bind fun q112 =>
        (ai q112 ((3 * x1) + 1) M).bind fun x114 =>
        if x110 < 0 then
          some ((24 + x1), M)
        else
          if x114 ≤ x110 then
            some ((24 + x1), M)
          else
            (gi x0 10 4 M).bind fun x118 =>
            if x118 < x114 then
              some ((24 + x1), M)
            else
              (gr x0 10 8).bind fun q121 =>
              (ai q121 ((3 * x1) + 2) M).bind fun x123 =>
              (gi x0 10 4 M).bind fun x125 =>
              bd (f_Mo_out x123 x125 M) fun x129 M127 =>
              if x129 = 0 then
                h_Mo_malformed_72 n x0 (x1 + 1) M127
              else
                some ((24 + x1), M127)) = some (v, M') := h
    refine lv_iload_n hx hb d_Mo_malformed_72 rfl (lv_at hl 1 rfl) ?_
    refine lv_aload_n hx hb d_Mo_malformed_73 rfl (lv_at hl 0 rfl) ?_
    obtain ⟨x101, e102, h⟩ := ob h
    refine k_gi C0 F_Mo_147 ik_10_7 hP e102 d_Mo_malformed_74 ?_
    refine lv_icmp_ge (tgt := 148) hx hb d_Mo_malformed_77 (by decide) (fun c103 => ?_) (fun c103 => ?_)
    · rw [if_pos c103] at h
      refine lv_aload_n hx hb d_Mo_malformed_148 rfl (lv_at hl 0 rfl) ?_
      obtain ⟨_, e104, h⟩ := ob h
      obtain ⟨x107, M105, e106, h⟩ := ob2 h
      refine k_cV C0 L_Mo_175 (As := []) (c_Mo_badDepth l G x0 e106) ⟨rfl, rfl⟩ ⟨Nat.le_of_ble_eq_true rfl, Nat.le_of_ble_eq_true rfl⟩ hP hS (ck_of e104) ly_Mo rfl hl.1 rfl (Nat.le_of_ble_eq_true rfl) d_Mo_malformed_149 ⟨Nat.zero_le _, Nat.zero_le _⟩ (fun H locs hP hS => ?_)
      cases h
      exact r_iret C0 hP hS d_Mo_malformed_152
    · rw [if_neg c103] at h
      refine lv_aload_n hx hb d_Mo_malformed_80 rfl (lv_at hl 0 rfl) ?_
      obtain ⟨q108, e109, h⟩ := ob h
      refine k_gr C0 F_Mo_22 hP e109 d_Mo_malformed_81 ?_
      refine lv_iconst (v := 3) hx hb d_Mo_malformed_84 ic_3 ?_
      refine lv_iload_n hx hb d_Mo_malformed_85 rfl (lv_at hl 1 rfl) ?_
      refine lv_imul hx hb d_Mo_malformed_86 ?_
      obtain ⟨x110, e111, h⟩ := ob h
      refine k_ai C0 hP e111 d_Mo_malformed_87 ?_
      refine lv_istore_n (lv' := [(2, .int x110), (0, .ref (G.2.2 + x0)), (1, .int x1)]) hx hb d_Mo_malformed_88 rfl hl (by decide) rfl (fun ls hl => ?_)
      refine lv_aload_n hx hb d_Mo_malformed_89 rfl (lv_at hl 1 rfl) ?_
      obtain ⟨q112, e113, h⟩ := ob h
      refine k_gr C0 F_Mo_22 hP e113 d_Mo_malformed_90 ?_
      refine lv_iconst (v := 3) hx hb d_Mo_malformed_93 ic_3 ?_
      refine lv_iload_n hx hb d_Mo_malformed_94 rfl (lv_at hl 2 rfl) ?_
      refine lv_imul hx hb d_Mo_malformed_95 ?_
      refine lv_iconst (v := 1) hx hb d_Mo_malformed_96 ic_1 ?_
      refine lv_iadd hx hb d_Mo_malformed_97 ?_
      obtain ⟨x114, e115, h⟩ := ob h
      refine k_ai C0 hP e115 d_Mo_malformed_98 ?_
      refine lv_istore_n (lv' := [(3, .int x114), (2, .int x110), (0, .ref (G.2.2 + x0)), (1, .int x1)]) hx hb d_Mo_malformed_99 rfl hl (by decide) rfl (fun ls hl => ?_)
      refine lv_iload_n hx hb d_Mo_malformed_100 rfl (lv_at hl 1 rfl) ?_
      refine lv_if_lt (tgt := 137) hx hb d_Mo_malformed_101 (by decide) (fun c116 => ?_) (fun c116 => ?_)
      · rw [if_pos c116] at h
        refine lv_bipush (v := 24) hx hb d_Mo_malformed_137 bp_24 ?_
        refine lv_iload_n hx hb d_Mo_malformed_139 rfl (lv_at hl 3 rfl) ?_
        refine lv_iadd hx hb d_Mo_malformed_140 ?_
        cases h
        exact r_iret C0 hP hS d_Mo_malformed_141
      · rw [if_neg c116] at h
        refine lv_iload_n hx hb d_Mo_malformed_104 rfl (lv_at hl 1 rfl) ?_
        refine lv_iload_n hx hb d_Mo_malformed_105 rfl (lv_at hl 0 rfl) ?_
        refine lv_icmp_ge (tgt := 137) hx hb d_Mo_malformed_106 (by decide) (fun c117 => ?_) (fun c117 => ?_)
        · rw [if_pos c117] at h
          refine lv_bipush (v := 24) hx hb d_Mo_malformed_137 bp_24 ?_
          refine lv_iload_n hx hb d_Mo_malformed_139 rfl (lv_at hl 3 rfl) ?_
          refine lv_iadd hx hb d_Mo_malformed_140 ?_
          cases h
          exact r_iret C0 hP hS d_Mo_malformed_141
        · rw [if_neg c117] at h
          refine lv_iload_n hx hb d_Mo_malformed_109 rfl (lv_at hl 0 rfl) ?_
          refine lv_aload_n hx hb d_Mo_malformed_110 rfl (lv_at hl 2 rfl) ?_
          obtain ⟨x118, e119, h⟩ := ob h
          refine k_gi C0 F_Mo_144 ik_10_4 hP e119 d_Mo_malformed_111 ?_
          refine lv_icmp_gt (tgt := 137) hx hb d_Mo_malformed_114 (by decide) (fun c120 => ?_) (fun c120 => ?_)
          · rw [if_pos c120] at h
            refine lv_bipush (v := 24) hx hb d_Mo_malformed_137 bp_24 ?_
            refine lv_iload_n hx hb d_Mo_malformed_139 rfl (lv_at hl 3 rfl) ?_
            refine lv_iadd hx hb d_Mo_malformed_140 ?_
            cases h
            exact r_iret C0 hP hS d_Mo_malformed_141
          · rw [if_neg c120] at h
            refine lv_aload_n hx hb d_Mo_malformed_117 rfl (lv_at hl 2 rfl) ?_
            obtain ⟨q121, e122, h⟩ := ob h
            refine k_gr C0 F_Mo_22 hP e122 d_Mo_malformed_118 ?_
            refine lv_iconst (v := 3) hx hb d_Mo_malformed_121 ic_3 ?_
            refine lv_iload_n hx hb d_Mo_malformed_122 rfl (lv_at hl 3 rfl) ?_
            refine lv_imul hx hb d_Mo_malformed_123 ?_
            refine lv_iconst (v := 2) hx hb d_Mo_malformed_124 ic_2 ?_
            refine lv_iadd hx hb d_Mo_malformed_125 ?_
            obtain ⟨x123, e124, h⟩ := ob h
            refine k_ai C0 hP e124 d_Mo_malformed_126 ?_
            refine lv_aload_n hx hb d_Mo_malformed_127 rfl (lv_at hl 2 rfl) ?_
            obtain ⟨x125, e126, h⟩ := ob h
            refine k_gi C0 F_Mo_144 ik_10_4 hP e126 d_Mo_malformed_128 ?_
            obtain ⟨x129, M127, e128, h⟩ := ob2 h
            refine k_cS C0 L_Mo_128 (As := [.int x123, .int x125]) (c_Mo_out l G x123 x125 e128) ⟨rfl, rfl⟩ ⟨Nat.le_of_ble_eq_true rfl, Nat.le_of_ble_eq_true rfl⟩ hP hS rfl hl.1 rfl (Nat.le_of_ble_eq_true rfl) d_Mo_malformed_131 ⟨Nat.zero_le _, Nat.zero_le _⟩ (fun H locs hP hS => ?_)
            refine lv_if_eq (tgt := 142) hx hb d_Mo_malformed_134 (by decide) (fun c130 => ?_) (fun c130 => ?_)
            · rw [if_pos c130] at h
              refine lv_iinc (v := (x1 + 1)) (lv' := [(1, .int (x1 + 1)), (3, .int x114), (2, .int x110), (0, .ref (G.2.2 + x0))]) hx hb d_Mo_malformed_142 hl (k := 3) rfl (congrArg (fun z => x1 + z) ic_1) (by decide) rfl (fun ls hl => ?_)
              refine lv_goto (tgt := 72) hx hb d_Mo_malformed_145 (by decide) ?_
              exact ih x0 (x1 + 1) hP hS (lv_sub hl [3, 0] rfl) h
            · rw [if_neg c130] at h
              refine lv_bipush (v := 24) hx hb d_Mo_malformed_137 bp_24 ?_
              refine lv_iload_n hx hb d_Mo_malformed_139 rfl (lv_at hl 3 rfl) ?_
              refine lv_iadd hx hb d_Mo_malformed_140 ?_
              cases h
              exact r_iret C0 hP hS d_Mo_malformed_141
set_option maxHeartbeats 4000000 in
set_option maxRecDepth 100000 in
theorem w_Mo_malformed_11 {p : Program} {l : Launch} {e : Env} {s : State} {m : MethodId} {args : Array Value} {below : List Frame} {meth : Method} {c : Code} {G : fm_G} (C0 : fm_C p s m args meth c G (.code y_Mo_malformed b_Mo_malformed 4 (some .int)) "AllocationProfilerModel" b_Mo_malformed 4 (some .int)) {v : Int32} {M' : fm_M} : ∀ (n : Nat) (x0 : Nat) (x1 : Int32) {M : fm_M} {H : Heap} {locs : List Loc}, kP G M H → kS G s H locs → ∀ {ls : Array Slot}, lv_has ls 4 [(0, .ref (G.2.2 + x0)), (1, .int x1)] → h_Mo_malformed_11 n x0 x1 M = some (v, M') → W p l e rm_Mo_malformed s m args below meth c H locs 0 0 (MQ below (fm_Q G 212 shF (some (.int v)) M') args s 0 0 (fm_A G.2.2)) (F0 m 11 ls []) := by
  have hx := C0.1
  have hb := C0.2.1
  intro n
  induction n with
  | zero =>
    intro x0 x1 M H locs hP hS ls hl h
    exact nomatch h
  | succ n ih =>
    intro x0 x1 M H locs hP hS ls hl h
    have h : ((gi x0 10 4 M).bind fun x131 =>
      if x131 ≤ x1 then
        (gr x0 10 5).bind fun q134 =>
        (gi x0 10 4 M).bind fun x136 =>
        (ai q134 (x136 - 1) M).bind fun x138 =>
        bd (f_Mo_goesOn x138 M) fun x142 M140 =>
        if x142 = 0 then
          h_Mo_malformed_72 100000 x0 0 M140
        else
          (gi x0 10 4 M140).bind fun x144 =>
          some ((x144 - 1), M140)
      else
        (gr x0 10 5).bind fun q146 =>
        (ai q146 x1 M).bind fun x148 =>
        (gr x0 10 6).bind fun q150 =>
        (ai q150 x1 M).bind fun x152 =>
        (ck x0 10).bind fun _ =>
        bd (f_Mo_fits x0 x148 x152 M) fun x157 M155 =>
        if x157 = 0 then
          some (x1, M155)
        else
          h_Mo_malformed_11 n x0 (x1 + 1) M155) = some (v, M') := h
    refine lv_iload_n hx hb d_Mo_malformed_11 rfl (lv_at hl 1 rfl) ?_
    refine lv_aload_n hx hb d_Mo_malformed_12 rfl (lv_at hl 0 rfl) ?_
    obtain ⟨x131, e132, h⟩ := ob h
    refine k_gi C0 F_Mo_144 ik_10_4 hP e132 d_Mo_malformed_13 ?_
    refine lv_icmp_ge (tgt := 46) hx hb d_Mo_malformed_16 (by decide) (fun c133 => ?_) (fun c133 => ?_)
    · rw [if_pos c133] at h
      refine lv_aload_n hx hb d_Mo_malformed_46 rfl (lv_at hl 0 rfl) ?_
      obtain ⟨q134, e135, h⟩ := ob h
      refine k_gr C0 F_Mo_16 hP e135 d_Mo_malformed_47 ?_
      refine lv_aload_n hx hb d_Mo_malformed_50 rfl (lv_at hl 0 rfl) ?_
      obtain ⟨x136, e137, h⟩ := ob h
      refine k_gi C0 F_Mo_144 ik_10_4 hP e137 d_Mo_malformed_51 ?_
      refine lv_iconst (v := 1) hx hb d_Mo_malformed_54 ic_1 ?_
      refine lv_isub hx hb d_Mo_malformed_55 ?_
      obtain ⟨x138, e139, h⟩ := ob h
      refine k_ai C0 hP e139 d_Mo_malformed_56 ?_
      obtain ⟨x142, M140, e141, h⟩ := ob2 h
      refine k_cS C0 L_Mo_163 (As := [.int x138]) (c_Mo_goesOn l G x138 e141) ⟨rfl, rfl⟩ ⟨Nat.le_of_ble_eq_true rfl, Nat.le_of_ble_eq_true rfl⟩ hP hS rfl hl.1 rfl (Nat.le_of_ble_eq_true rfl) d_Mo_malformed_57 ⟨Nat.zero_le _, Nat.zero_le _⟩ (fun H locs hP hS => ?_)
      refine lv_if_eq (tgt := 70) hx hb d_Mo_malformed_60 (by decide) (fun c143 => ?_) (fun c143 => ?_)
      · rw [if_pos c143] at h
        refine lv_iconst (v := 0) hx hb d_Mo_malformed_70 ic_0 ?_
        refine lv_istore_n (lv' := [(1, .int 0), (0, .ref (G.2.2 + x0))]) hx hb d_Mo_malformed_71 rfl hl (by decide) rfl (fun ls hl => ?_)
        exact w_Mo_malformed_72 C0 100000 x0 0 hP hS (lv_sub hl [1, 0] rfl) h
      · rw [if_neg c143] at h
        refine lv_aload_n hx hb d_Mo_malformed_63 rfl (lv_at hl 0 rfl) ?_
        obtain ⟨x144, e145, h⟩ := ob h
        refine k_gi C0 F_Mo_144 ik_10_4 hP e145 d_Mo_malformed_64 ?_
        refine lv_iconst (v := 1) hx hb d_Mo_malformed_67 ic_1 ?_
        refine lv_isub hx hb d_Mo_malformed_68 ?_
        cases h
        exact r_iret C0 hP hS d_Mo_malformed_69
    · rw [if_neg c133] at h
      refine lv_aload_n hx hb d_Mo_malformed_19 rfl (lv_at hl 0 rfl) ?_
      refine lv_aload_n hx hb d_Mo_malformed_20 rfl (lv_at hl 0 rfl) ?_
      obtain ⟨q146, e147, h⟩ := ob h
      refine k_gr C0 F_Mo_16 hP e147 d_Mo_malformed_21 ?_
      refine lv_iload_n hx hb d_Mo_malformed_24 rfl (lv_at hl 1 rfl) ?_
      obtain ⟨x148, e149, h⟩ := ob h
      refine k_ai C0 hP e149 d_Mo_malformed_25 ?_
      refine lv_aload_n hx hb d_Mo_malformed_26 rfl (lv_at hl 0 rfl) ?_
      obtain ⟨q150, e151, h⟩ := ob h
      refine k_gr C0 F_Mo_19 hP e151 d_Mo_malformed_27 ?_
      refine lv_iload_n hx hb d_Mo_malformed_30 rfl (lv_at hl 1 rfl) ?_
      obtain ⟨x152, e153, h⟩ := ob h
      refine k_ai C0 hP e153 d_Mo_malformed_31 ?_
      obtain ⟨_, e154, h⟩ := ob h
      obtain ⟨x157, M155, e156, h⟩ := ob2 h
      refine k_cV C0 L_Mo_172 (As := [.int x148, .int x152]) (c_Mo_fits l G x0 x148 x152 e156) ⟨rfl, rfl⟩ ⟨Nat.le_of_ble_eq_true rfl, Nat.le_of_ble_eq_true rfl⟩ hP hS (ck_of e154) ly_Mo rfl hl.1 rfl (Nat.le_of_ble_eq_true rfl) d_Mo_malformed_32 ⟨Nat.zero_le _, Nat.zero_le _⟩ (fun H locs hP hS => ?_)
      refine lv_if_ne (tgt := 40) hx hb d_Mo_malformed_35 (by decide) (fun c158 => ?_) (fun c158 => ?_)
      · rw [if_neg c158] at h
        refine lv_iinc (v := (x1 + 1)) (lv' := [(1, .int (x1 + 1)), (0, .ref (G.2.2 + x0))]) hx hb d_Mo_malformed_40 hl (k := 1) rfl (congrArg (fun z => x1 + z) ic_1) (by decide) rfl (fun ls hl => ?_)
        refine lv_goto (tgt := 11) hx hb d_Mo_malformed_43 (by decide) ?_
        exact ih x0 (x1 + 1) hP hS (lv_sub hl [1, 0] rfl) h
      · rw [if_pos c158] at h
        refine lv_iload_n hx hb d_Mo_malformed_38 rfl (lv_at hl 1 rfl) ?_
        cases h
        exact r_iret C0 hP hS d_Mo_malformed_39
set_option maxHeartbeats 4000000 in
set_option maxRecDepth 100000 in
theorem c_Mo_malformed (l : Launch) (G : fm_G) (x0 : Nat) {v : Int32} {M M' : fm_M} (h : f_Mo_malformed x0 M = some (v, M')) : kMet l y_Mo_malformed b_Mo_malformed 4 (some .int) rm_Mo_malformed G M [.ref (G.2.2 + x0)] (some (.int v)) M' := by
  refine r_met (by decide) rfl (Nat.le_of_ble_eq_true rfl) (fun p e s m args below meth c C0 hP ls hl => ?_)
  have hx := C0.1
  have hb := C0.2.1
  have hl : lv_has ls 4 [(0, .ref (G.2.2 + x0))] := hl
  have hS : va_S (fm_A G.2.2) s.heap s.heap [] := va_S.rf
  unfold f_Mo_malformed at h
  refine lv_aload_n hx hb d_Mo_malformed_0 rfl (lv_at hl 0 rfl) ?_
  obtain ⟨x159, e160, h⟩ := ob h
  refine k_gi C0 F_Mo_144 ik_10_4 hP e160 d_Mo_malformed_1 ?_
  refine lv_if_ne (tgt := 9) hx hb d_Mo_malformed_4 (by decide) (fun c161 => ?_) (fun c161 => ?_)
  · rw [if_neg c161] at h
    refine lv_iconst (v := 0) hx hb d_Mo_malformed_9 ic_0 ?_
    refine lv_istore_n (lv' := [(1, .int 0), (0, .ref (G.2.2 + x0))]) hx hb d_Mo_malformed_10 rfl hl (by decide) rfl (fun ls hl => ?_)
    exact w_Mo_malformed_11 C0 100000 x0 0 hP hS (lv_sub hl [1, 0] rfl) h
  · rw [if_pos c161] at h
    refine lv_iconst (v := 0) hx hb d_Mo_malformed_7 ic_0 ?_
    cases h
    exact r_iret C0 hP hS d_Mo_malformed_8
/-! AllocationProfilerModel.same -/
def rm_Mo_same : Room := { frames := 0, cells := 0, slots := 0, locals := 0 }
theorem d_Mo_same_0 : decode b_Mo_same 0 = .ok (.aload_n 0, 1) := by decide +kernel
theorem d_Mo_same_1 : decode b_Mo_same 1 = .ok (.getfield 48, 3) := by decide +kernel
theorem d_Mo_same_4 : decode b_Mo_same 4 = .ok (.iload_n 1, 1) := by decide +kernel
theorem d_Mo_same_5 : decode b_Mo_same 5 = .ok (.aload_n 0, 1) := by decide +kernel
theorem d_Mo_same_6 : decode b_Mo_same 6 = .ok (.getfield 33, 3) := by decide +kernel
theorem d_Mo_same_9 : decode b_Mo_same 9 = .ok (.iload_n 1, 1) := by decide +kernel
theorem d_Mo_same_10 : decode b_Mo_same 10 = .ok (.iaload, 1) := by decide +kernel
theorem d_Mo_same_11 : decode b_Mo_same 11 = .ok (.iastore, 1) := by decide +kernel
theorem d_Mo_same_12 : decode b_Mo_same 12 = .ok (.iconst 0, 1) := by decide +kernel
theorem d_Mo_same_13 : decode b_Mo_same 13 = .ok (.istore_n 2, 1) := by decide +kernel
theorem d_Mo_same_14 : decode b_Mo_same 14 = .ok (.iload_n 2, 1) := by decide +kernel
theorem d_Mo_same_15 : decode b_Mo_same 15 = .ok (.aload_n 0, 1) := by decide +kernel
theorem d_Mo_same_16 : decode b_Mo_same 16 = .ok (.getfield 33, 3) := by decide +kernel
theorem d_Mo_same_19 : decode b_Mo_same 19 = .ok (.iload_n 1, 1) := by decide +kernel
theorem d_Mo_same_20 : decode b_Mo_same 20 = .ok (.iaload, 1) := by decide +kernel
theorem d_Mo_same_21 : decode b_Mo_same 21 = .ok (.if_icmp .ge 53, 3) := by decide +kernel
theorem d_Mo_same_24 : decode b_Mo_same 24 = .ok (.aload_n 0, 1) := by decide +kernel
theorem d_Mo_same_25 : decode b_Mo_same 25 = .ok (.getfield 51, 3) := by decide +kernel
theorem d_Mo_same_28 : decode b_Mo_same 28 = .ok (.bipush 28, 2) := by decide +kernel
theorem d_Mo_same_30 : decode b_Mo_same 30 = .ok (.iload_n 1, 1) := by decide +kernel
theorem d_Mo_same_31 : decode b_Mo_same 31 = .ok (.imul, 1) := by decide +kernel
theorem d_Mo_same_32 : decode b_Mo_same 32 = .ok (.iload_n 2, 1) := by decide +kernel
theorem d_Mo_same_33 : decode b_Mo_same 33 = .ok (.iadd, 1) := by decide +kernel
theorem d_Mo_same_34 : decode b_Mo_same 34 = .ok (.aload_n 0, 1) := by decide +kernel
theorem d_Mo_same_35 : decode b_Mo_same 35 = .ok (.getfield 36, 3) := by decide +kernel
theorem d_Mo_same_38 : decode b_Mo_same 38 = .ok (.bipush 24, 2) := by decide +kernel
theorem d_Mo_same_40 : decode b_Mo_same 40 = .ok (.iload_n 1, 1) := by decide +kernel
theorem d_Mo_same_41 : decode b_Mo_same 41 = .ok (.imul, 1) := by decide +kernel
theorem d_Mo_same_42 : decode b_Mo_same 42 = .ok (.iload_n 2, 1) := by decide +kernel
theorem d_Mo_same_43 : decode b_Mo_same 43 = .ok (.iadd, 1) := by decide +kernel
theorem d_Mo_same_44 : decode b_Mo_same 44 = .ok (.iaload, 1) := by decide +kernel
theorem d_Mo_same_45 : decode b_Mo_same 45 = .ok (.iastore, 1) := by decide +kernel
theorem d_Mo_same_46 : decode b_Mo_same 46 = .ok (.aload_n 0, 1) := by decide +kernel
theorem d_Mo_same_47 : decode b_Mo_same 47 = .ok (.getfield 54, 3) := by decide +kernel
theorem d_Mo_same_50 : decode b_Mo_same 50 = .ok (.bipush 28, 2) := by decide +kernel
theorem d_Mo_same_52 : decode b_Mo_same 52 = .ok (.iload_n 1, 1) := by decide +kernel
theorem d_Mo_same_53 : decode b_Mo_same 53 = .ok (.imul, 1) := by decide +kernel
theorem d_Mo_same_54 : decode b_Mo_same 54 = .ok (.iload_n 2, 1) := by decide +kernel
theorem d_Mo_same_55 : decode b_Mo_same 55 = .ok (.iadd, 1) := by decide +kernel
theorem d_Mo_same_56 : decode b_Mo_same 56 = .ok (.aload_n 0, 1) := by decide +kernel
theorem d_Mo_same_57 : decode b_Mo_same 57 = .ok (.getfield 39, 3) := by decide +kernel
theorem d_Mo_same_60 : decode b_Mo_same 60 = .ok (.bipush 24, 2) := by decide +kernel
theorem d_Mo_same_62 : decode b_Mo_same 62 = .ok (.iload_n 1, 1) := by decide +kernel
theorem d_Mo_same_63 : decode b_Mo_same 63 = .ok (.imul, 1) := by decide +kernel
theorem d_Mo_same_64 : decode b_Mo_same 64 = .ok (.iload_n 2, 1) := by decide +kernel
theorem d_Mo_same_65 : decode b_Mo_same 65 = .ok (.iadd, 1) := by decide +kernel
theorem d_Mo_same_66 : decode b_Mo_same 66 = .ok (.iaload, 1) := by decide +kernel
theorem d_Mo_same_67 : decode b_Mo_same 67 = .ok (.iastore, 1) := by decide +kernel
theorem d_Mo_same_68 : decode b_Mo_same 68 = .ok (.iinc 2 1, 3) := by decide +kernel
theorem d_Mo_same_71 : decode b_Mo_same 71 = .ok (.goto (-57), 3) := by decide +kernel
theorem d_Mo_same_74 : decode b_Mo_same 74 = .ok (.iconst 0, 1) := by decide +kernel
theorem d_Mo_same_75 : decode b_Mo_same 75 = .ok (.istore_n 2, 1) := by decide +kernel
theorem d_Mo_same_76 : decode b_Mo_same 76 = .ok (.iload_n 2, 1) := by decide +kernel
theorem d_Mo_same_77 : decode b_Mo_same 77 = .ok (.bipush 6, 2) := by decide +kernel
theorem d_Mo_same_79 : decode b_Mo_same 79 = .ok (.if_icmp .ge 31, 3) := by decide +kernel
theorem d_Mo_same_82 : decode b_Mo_same 82 = .ok (.aload_n 0, 1) := by decide +kernel
theorem d_Mo_same_83 : decode b_Mo_same 83 = .ok (.getfield 57, 3) := by decide +kernel
theorem d_Mo_same_86 : decode b_Mo_same 86 = .ok (.bipush 6, 2) := by decide +kernel
theorem d_Mo_same_88 : decode b_Mo_same 88 = .ok (.iload_n 1, 1) := by decide +kernel
theorem d_Mo_same_89 : decode b_Mo_same 89 = .ok (.imul, 1) := by decide +kernel
theorem d_Mo_same_90 : decode b_Mo_same 90 = .ok (.iload_n 2, 1) := by decide +kernel
theorem d_Mo_same_91 : decode b_Mo_same 91 = .ok (.iadd, 1) := by decide +kernel
theorem d_Mo_same_92 : decode b_Mo_same 92 = .ok (.aload_n 0, 1) := by decide +kernel
theorem d_Mo_same_93 : decode b_Mo_same 93 = .ok (.getfield 45, 3) := by decide +kernel
theorem d_Mo_same_96 : decode b_Mo_same 96 = .ok (.bipush 6, 2) := by decide +kernel
theorem d_Mo_same_98 : decode b_Mo_same 98 = .ok (.iload_n 1, 1) := by decide +kernel
theorem d_Mo_same_99 : decode b_Mo_same 99 = .ok (.imul, 1) := by decide +kernel
theorem d_Mo_same_100 : decode b_Mo_same 100 = .ok (.iload_n 2, 1) := by decide +kernel
theorem d_Mo_same_101 : decode b_Mo_same 101 = .ok (.iadd, 1) := by decide +kernel
theorem d_Mo_same_102 : decode b_Mo_same 102 = .ok (.iaload, 1) := by decide +kernel
theorem d_Mo_same_103 : decode b_Mo_same 103 = .ok (.iastore, 1) := by decide +kernel
theorem d_Mo_same_104 : decode b_Mo_same 104 = .ok (.iinc 2 1, 3) := by decide +kernel
theorem d_Mo_same_107 : decode b_Mo_same 107 = .ok (.goto (-31), 3) := by decide +kernel
theorem d_Mo_same_110 : decode b_Mo_same 110 = .ok (.return_, 1) := by decide +kernel
def h_Mo_same_76 : Nat → Nat → Int32 → Int32 → fm_M → Option fm_M
  | 0, _, _, _, _ => none
  | n + 1, x0, x1, x2, M =>
    if 6 ≤ x2 then
      some M
    else
      (gr x0 10 21).bind fun q102 =>
      (gr x0 10 17).bind fun q104 =>
      (ai q104 ((6 * x1) + x2) M).bind fun x106 =>
      (si q102 ((6 * x1) + x2) x106 M).bind fun M108 =>
      h_Mo_same_76 n x0 x1 (x2 + 1) M108
def h_Mo_same_14 : Nat → Nat → Int32 → Int32 → fm_M → Option fm_M
  | 0, _, _, _, _ => none
  | n + 1, x0, x1, x2, M =>
    (gr x0 10 13).bind fun q110 =>
    (ai q110 x1 M).bind fun x112 =>
    if x112 ≤ x2 then
      h_Mo_same_76 100000 x0 x1 0 M
    else
      (gr x0 10 19).bind fun q115 =>
      (gr x0 10 14).bind fun q117 =>
      (ai q117 ((24 * x1) + x2) M).bind fun x119 =>
      (si q115 ((28 * x1) + x2) x119 M).bind fun M121 =>
      (gr x0 10 20).bind fun q123 =>
      (gr x0 10 15).bind fun q125 =>
      (ai q125 ((24 * x1) + x2) M121).bind fun x127 =>
      (si q123 ((28 * x1) + x2) x127 M121).bind fun M129 =>
      h_Mo_same_14 n x0 x1 (x2 + 1) M129
def f_Mo_same (x0 : Nat) (x1 : Int32) (M : fm_M) : Option fm_M :=
  (gr x0 10 18).bind fun q131 =>
  (gr x0 10 13).bind fun q133 =>
  (ai q133 x1 M).bind fun x135 =>
  (si q131 x1 x135 M).bind fun M137 =>
  h_Mo_same_14 100000 x0 x1 0 M137
set_option maxHeartbeats 4000000 in
set_option maxRecDepth 100000 in
theorem w_Mo_same_76 {p : Program} {l : Launch} {e : Env} {s : State} {m : MethodId} {args : Array Value} {below : List Frame} {meth : Method} {c : Code} {G : fm_G} (C0 : fm_C p s m args meth c G (.code y_Mo_same b_Mo_same 3 none) "AllocationProfilerModel" b_Mo_same 3 none) {M' : fm_M} : ∀ (n : Nat) (x0 : Nat) (x1 : Int32) (x2 : Int32) {M : fm_M} {H : Heap} {locs : List Loc}, kP G M H → kS G s H locs → ∀ {ls : Array Slot}, lv_has ls 3 [(0, .ref (G.2.2 + x0)), (1, .int x1), (2, .int x2)] → h_Mo_same_76 n x0 x1 x2 M = some M' → W p l e rm_Mo_same s m args below meth c H locs 0 0 (MQ below (fm_Q G 212 shF none M') args s 0 0 (fm_A G.2.2)) (F0 m 76 ls []) := by
  have hx := C0.1
  have hb := C0.2.1
  intro n
  induction n with
  | zero =>
    intro x0 x1 x2 M H locs hP hS ls hl h
    exact nomatch h
  | succ n ih =>
    intro x0 x1 x2 M H locs hP hS ls hl h
    have h : (if 6 ≤ x2 then
        some M
      else
        (gr x0 10 21).bind fun q102 =>
        (gr x0 10 17).bind fun q104 =>
        (ai q104 ((6 * x1) + x2) M).bind fun x106 =>
        (si q102 ((6 * x1) + x2) x106 M).bind fun M108 =>
        h_Mo_same_76 n x0 x1 (x2 + 1) M108) = some M' := h
    refine lv_iload_n hx hb d_Mo_same_76 rfl (lv_at hl 2 rfl) ?_
    refine lv_bipush (v := 6) hx hb d_Mo_same_77 bp_6 ?_
    refine lv_icmp_ge (tgt := 110) hx hb d_Mo_same_79 (by decide) (fun c101 => ?_) (fun c101 => ?_)
    · rw [if_pos c101] at h
      cases h
      exact r_vret C0 hP hS d_Mo_same_110
    · rw [if_neg c101] at h
      refine lv_aload_n hx hb d_Mo_same_82 rfl (lv_at hl 0 rfl) ?_
      obtain ⟨q102, e103, h⟩ := ob h
      refine k_gr C0 F_Mo_57 hP e103 d_Mo_same_83 ?_
      refine lv_bipush (v := 6) hx hb d_Mo_same_86 bp_6 ?_
      refine lv_iload_n hx hb d_Mo_same_88 rfl (lv_at hl 1 rfl) ?_
      refine lv_imul hx hb d_Mo_same_89 ?_
      refine lv_iload_n hx hb d_Mo_same_90 rfl (lv_at hl 2 rfl) ?_
      refine lv_iadd hx hb d_Mo_same_91 ?_
      refine lv_aload_n hx hb d_Mo_same_92 rfl (lv_at hl 0 rfl) ?_
      obtain ⟨q104, e105, h⟩ := ob h
      refine k_gr C0 F_Mo_45 hP e105 d_Mo_same_93 ?_
      refine lv_bipush (v := 6) hx hb d_Mo_same_96 bp_6 ?_
      refine lv_iload_n hx hb d_Mo_same_98 rfl (lv_at hl 1 rfl) ?_
      refine lv_imul hx hb d_Mo_same_99 ?_
      refine lv_iload_n hx hb d_Mo_same_100 rfl (lv_at hl 2 rfl) ?_
      refine lv_iadd hx hb d_Mo_same_101 ?_
      obtain ⟨x106, e107, h⟩ := ob h
      refine k_ai C0 hP e107 d_Mo_same_102 ?_
      obtain ⟨M108, e109, h⟩ := ob h
      refine k_si C0 hP hS e109 d_Mo_same_103 (fun H locs hP hS => ?_)
      refine lv_iinc (v := (x2 + 1)) (lv' := [(2, .int (x2 + 1)), (0, .ref (G.2.2 + x0)), (1, .int x1)]) hx hb d_Mo_same_104 hl (k := 2) rfl (congrArg (fun z => x2 + z) ic_1) (by decide) rfl (fun ls hl => ?_)
      refine lv_goto (tgt := 76) hx hb d_Mo_same_107 (by decide) ?_
      exact ih x0 x1 (x2 + 1) hP hS (lv_sub hl [1, 2, 0] rfl) h
set_option maxHeartbeats 4000000 in
set_option maxRecDepth 100000 in
theorem w_Mo_same_14 {p : Program} {l : Launch} {e : Env} {s : State} {m : MethodId} {args : Array Value} {below : List Frame} {meth : Method} {c : Code} {G : fm_G} (C0 : fm_C p s m args meth c G (.code y_Mo_same b_Mo_same 3 none) "AllocationProfilerModel" b_Mo_same 3 none) {M' : fm_M} : ∀ (n : Nat) (x0 : Nat) (x1 : Int32) (x2 : Int32) {M : fm_M} {H : Heap} {locs : List Loc}, kP G M H → kS G s H locs → ∀ {ls : Array Slot}, lv_has ls 3 [(0, .ref (G.2.2 + x0)), (1, .int x1), (2, .int x2)] → h_Mo_same_14 n x0 x1 x2 M = some M' → W p l e rm_Mo_same s m args below meth c H locs 0 0 (MQ below (fm_Q G 212 shF none M') args s 0 0 (fm_A G.2.2)) (F0 m 14 ls []) := by
  have hx := C0.1
  have hb := C0.2.1
  intro n
  induction n with
  | zero =>
    intro x0 x1 x2 M H locs hP hS ls hl h
    exact nomatch h
  | succ n ih =>
    intro x0 x1 x2 M H locs hP hS ls hl h
    have h : ((gr x0 10 13).bind fun q110 =>
      (ai q110 x1 M).bind fun x112 =>
      if x112 ≤ x2 then
        h_Mo_same_76 100000 x0 x1 0 M
      else
        (gr x0 10 19).bind fun q115 =>
        (gr x0 10 14).bind fun q117 =>
        (ai q117 ((24 * x1) + x2) M).bind fun x119 =>
        (si q115 ((28 * x1) + x2) x119 M).bind fun M121 =>
        (gr x0 10 20).bind fun q123 =>
        (gr x0 10 15).bind fun q125 =>
        (ai q125 ((24 * x1) + x2) M121).bind fun x127 =>
        (si q123 ((28 * x1) + x2) x127 M121).bind fun M129 =>
        h_Mo_same_14 n x0 x1 (x2 + 1) M129) = some M' := h
    refine lv_iload_n hx hb d_Mo_same_14 rfl (lv_at hl 2 rfl) ?_
    refine lv_aload_n hx hb d_Mo_same_15 rfl (lv_at hl 0 rfl) ?_
    obtain ⟨q110, e111, h⟩ := ob h
    refine k_gr C0 F_Mo_33 hP e111 d_Mo_same_16 ?_
    refine lv_iload_n hx hb d_Mo_same_19 rfl (lv_at hl 1 rfl) ?_
    obtain ⟨x112, e113, h⟩ := ob h
    refine k_ai C0 hP e113 d_Mo_same_20 ?_
    refine lv_icmp_ge (tgt := 74) hx hb d_Mo_same_21 (by decide) (fun c114 => ?_) (fun c114 => ?_)
    · rw [if_pos c114] at h
      refine lv_iconst (v := 0) hx hb d_Mo_same_74 ic_0 ?_
      refine lv_istore_n (lv' := [(2, .int 0), (0, .ref (G.2.2 + x0)), (1, .int x1)]) hx hb d_Mo_same_75 rfl hl (by decide) rfl (fun ls hl => ?_)
      exact w_Mo_same_76 C0 100000 x0 x1 0 hP hS (lv_sub hl [1, 2, 0] rfl) h
    · rw [if_neg c114] at h
      refine lv_aload_n hx hb d_Mo_same_24 rfl (lv_at hl 0 rfl) ?_
      obtain ⟨q115, e116, h⟩ := ob h
      refine k_gr C0 F_Mo_51 hP e116 d_Mo_same_25 ?_
      refine lv_bipush (v := 28) hx hb d_Mo_same_28 bp_28 ?_
      refine lv_iload_n hx hb d_Mo_same_30 rfl (lv_at hl 1 rfl) ?_
      refine lv_imul hx hb d_Mo_same_31 ?_
      refine lv_iload_n hx hb d_Mo_same_32 rfl (lv_at hl 2 rfl) ?_
      refine lv_iadd hx hb d_Mo_same_33 ?_
      refine lv_aload_n hx hb d_Mo_same_34 rfl (lv_at hl 0 rfl) ?_
      obtain ⟨q117, e118, h⟩ := ob h
      refine k_gr C0 F_Mo_36 hP e118 d_Mo_same_35 ?_
      refine lv_bipush (v := 24) hx hb d_Mo_same_38 bp_24 ?_
      refine lv_iload_n hx hb d_Mo_same_40 rfl (lv_at hl 1 rfl) ?_
      refine lv_imul hx hb d_Mo_same_41 ?_
      refine lv_iload_n hx hb d_Mo_same_42 rfl (lv_at hl 2 rfl) ?_
      refine lv_iadd hx hb d_Mo_same_43 ?_
      obtain ⟨x119, e120, h⟩ := ob h
      refine k_ai C0 hP e120 d_Mo_same_44 ?_
      obtain ⟨M121, e122, h⟩ := ob h
      refine k_si C0 hP hS e122 d_Mo_same_45 (fun H locs hP hS => ?_)
      refine lv_aload_n hx hb d_Mo_same_46 rfl (lv_at hl 0 rfl) ?_
      obtain ⟨q123, e124, h⟩ := ob h
      refine k_gr C0 F_Mo_54 hP e124 d_Mo_same_47 ?_
      refine lv_bipush (v := 28) hx hb d_Mo_same_50 bp_28 ?_
      refine lv_iload_n hx hb d_Mo_same_52 rfl (lv_at hl 1 rfl) ?_
      refine lv_imul hx hb d_Mo_same_53 ?_
      refine lv_iload_n hx hb d_Mo_same_54 rfl (lv_at hl 2 rfl) ?_
      refine lv_iadd hx hb d_Mo_same_55 ?_
      refine lv_aload_n hx hb d_Mo_same_56 rfl (lv_at hl 0 rfl) ?_
      obtain ⟨q125, e126, h⟩ := ob h
      refine k_gr C0 F_Mo_39 hP e126 d_Mo_same_57 ?_
      refine lv_bipush (v := 24) hx hb d_Mo_same_60 bp_24 ?_
      refine lv_iload_n hx hb d_Mo_same_62 rfl (lv_at hl 1 rfl) ?_
      refine lv_imul hx hb d_Mo_same_63 ?_
      refine lv_iload_n hx hb d_Mo_same_64 rfl (lv_at hl 2 rfl) ?_
      refine lv_iadd hx hb d_Mo_same_65 ?_
      obtain ⟨x127, e128, h⟩ := ob h
      refine k_ai C0 hP e128 d_Mo_same_66 ?_
      obtain ⟨M129, e130, h⟩ := ob h
      refine k_si C0 hP hS e130 d_Mo_same_67 (fun H locs hP hS => ?_)
      refine lv_iinc (v := (x2 + 1)) (lv' := [(2, .int (x2 + 1)), (0, .ref (G.2.2 + x0)), (1, .int x1)]) hx hb d_Mo_same_68 hl (k := 2) rfl (congrArg (fun z => x2 + z) ic_1) (by decide) rfl (fun ls hl => ?_)
      refine lv_goto (tgt := 14) hx hb d_Mo_same_71 (by decide) ?_
      exact ih x0 x1 (x2 + 1) hP hS (lv_sub hl [1, 2, 0] rfl) h
set_option maxHeartbeats 4000000 in
set_option maxRecDepth 100000 in
theorem c_Mo_same (l : Launch) (G : fm_G) (x0 : Nat) (x1 : Int32) {M M' : fm_M} (h : f_Mo_same x0 x1 M = some M') : kMet l y_Mo_same b_Mo_same 3 none rm_Mo_same G M [.ref (G.2.2 + x0), .int x1] none M' := by
  refine r_met (by decide) rfl (Nat.le_of_ble_eq_true rfl) (fun p e s m args below meth c C0 hP ls hl => ?_)
  have hx := C0.1
  have hb := C0.2.1
  have hl : lv_has ls 3 [(0, .ref (G.2.2 + x0)), (1, .int x1)] := hl
  have hS : va_S (fm_A G.2.2) s.heap s.heap [] := va_S.rf
  unfold f_Mo_same at h
  refine lv_aload_n hx hb d_Mo_same_0 rfl (lv_at hl 0 rfl) ?_
  obtain ⟨q131, e132, h⟩ := ob h
  refine k_gr C0 F_Mo_48 hP e132 d_Mo_same_1 ?_
  refine lv_iload_n hx hb d_Mo_same_4 rfl (lv_at hl 1 rfl) ?_
  refine lv_aload_n hx hb d_Mo_same_5 rfl (lv_at hl 0 rfl) ?_
  obtain ⟨q133, e134, h⟩ := ob h
  refine k_gr C0 F_Mo_33 hP e134 d_Mo_same_6 ?_
  refine lv_iload_n hx hb d_Mo_same_9 rfl (lv_at hl 1 rfl) ?_
  obtain ⟨x135, e136, h⟩ := ob h
  refine k_ai C0 hP e136 d_Mo_same_10 ?_
  obtain ⟨M137, e138, h⟩ := ob h
  refine k_si C0 hP hS e138 d_Mo_same_11 (fun H locs hP hS => ?_)
  refine lv_iconst (v := 0) hx hb d_Mo_same_12 ic_0 ?_
  refine lv_istore_n (lv' := [(2, .int 0), (0, .ref (G.2.2 + x0)), (1, .int x1)]) hx hb d_Mo_same_13 rfl hl (by decide) rfl (fun ls hl => ?_)
  exact w_Mo_same_14 C0 100000 x0 x1 0 hP hS (lv_sub hl [1, 2, 0] rfl) h
/-! AllocationProfilerModel.define -/
def rm_Mo_define : Room := { frames := 4, cells := 0, slots := 0, locals := 98 }
theorem d_Mo_define_0 : decode b_Mo_define 0 = .ok (.aload_n 0, 1) := by decide +kernel
theorem d_Mo_define_1 : decode b_Mo_define 1 = .ok (.getfield 154, 3) := by decide +kernel
theorem d_Mo_define_4 : decode b_Mo_define 4 = .ok (.bipush 6, 2) := by decide +kernel
theorem d_Mo_define_6 : decode b_Mo_define 6 = .ok (.if_icmp .ge 14, 3) := by decide +kernel
theorem d_Mo_define_9 : decode b_Mo_define 9 = .ok (.aload_n 0, 1) := by decide +kernel
theorem d_Mo_define_10 : decode b_Mo_define 10 = .ok (.getfield 132, 3) := by decide +kernel
theorem d_Mo_define_13 : decode b_Mo_define 13 = .ok (.ifCond .ne 7, 3) := by decide +kernel
theorem d_Mo_define_16 : decode b_Mo_define 16 = .ok (.iconst 1, 1) := by decide +kernel
theorem d_Mo_define_17 : decode b_Mo_define 17 = .ok (.goto 4, 3) := by decide +kernel
theorem d_Mo_define_20 : decode b_Mo_define 20 = .ok (.iconst 0, 1) := by decide +kernel
theorem d_Mo_define_21 : decode b_Mo_define 21 = .ok (.istore_n 1, 1) := by decide +kernel
theorem d_Mo_define_22 : decode b_Mo_define 22 = .ok (.aload_n 0, 1) := by decide +kernel
theorem d_Mo_define_23 : decode b_Mo_define 23 = .ok (.iload_n 1, 1) := by decide +kernel
theorem d_Mo_define_24 : decode b_Mo_define 24 = .ok (.ifCond .eq 10, 3) := by decide +kernel
theorem d_Mo_define_27 : decode b_Mo_define 27 = .ok (.aload_n 0, 1) := by decide +kernel
theorem d_Mo_define_28 : decode b_Mo_define 28 = .ok (.invokevirtual 179, 3) := by decide +kernel
theorem d_Mo_define_31 : decode b_Mo_define 31 = .ok (.goto 4, 3) := by decide +kernel
theorem d_Mo_define_34 : decode b_Mo_define 34 = .ok (.iconst (-1), 1) := by decide +kernel
theorem d_Mo_define_35 : decode b_Mo_define 35 = .ok (.putfield 25, 3) := by decide +kernel
theorem d_Mo_define_38 : decode b_Mo_define 38 = .ok (.aload_n 0, 1) := by decide +kernel
theorem d_Mo_define_39 : decode b_Mo_define 39 = .ok (.iload_n 1, 1) := by decide +kernel
theorem d_Mo_define_40 : decode b_Mo_define 40 = .ok (.ifCond .ne 7, 3) := by decide +kernel
theorem d_Mo_define_43 : decode b_Mo_define 43 = .ok (.iconst 1, 1) := by decide +kernel
theorem d_Mo_define_44 : decode b_Mo_define 44 = .ok (.goto 15, 3) := by decide +kernel
theorem d_Mo_define_47 : decode b_Mo_define 47 = .ok (.aload_n 0, 1) := by decide +kernel
theorem d_Mo_define_48 : decode b_Mo_define 48 = .ok (.getfield 25, 3) := by decide +kernel
theorem d_Mo_define_51 : decode b_Mo_define 51 = .ok (.ifCond .lt 7, 3) := by decide +kernel
theorem d_Mo_define_54 : decode b_Mo_define 54 = .ok (.iconst 2, 1) := by decide +kernel
theorem d_Mo_define_55 : decode b_Mo_define 55 = .ok (.goto 4, 3) := by decide +kernel
theorem d_Mo_define_58 : decode b_Mo_define 58 = .ok (.iconst 0, 1) := by decide +kernel
theorem d_Mo_define_59 : decode b_Mo_define 59 = .ok (.putfield 122, 3) := by decide +kernel
theorem d_Mo_define_62 : decode b_Mo_define 62 = .ok (.aload_n 0, 1) := by decide +kernel
theorem d_Mo_define_63 : decode b_Mo_define 63 = .ok (.getfield 122, 3) := by decide +kernel
theorem d_Mo_define_66 : decode b_Mo_define 66 = .ok (.ifCond .ne 136, 3) := by decide +kernel
theorem d_Mo_define_69 : decode b_Mo_define 69 = .ok (.aload_n 0, 1) := by decide +kernel
theorem d_Mo_define_70 : decode b_Mo_define 70 = .ok (.getfield 154, 3) := by decide +kernel
theorem d_Mo_define_73 : decode b_Mo_define 73 = .ok (.istore_n 2, 1) := by decide +kernel
theorem d_Mo_define_74 : decode b_Mo_define 74 = .ok (.iconst 0, 1) := by decide +kernel
theorem d_Mo_define_75 : decode b_Mo_define 75 = .ok (.istore_n 3, 1) := by decide +kernel
theorem d_Mo_define_76 : decode b_Mo_define 76 = .ok (.iload_n 3, 1) := by decide +kernel
theorem d_Mo_define_77 : decode b_Mo_define 77 = .ok (.aload_n 0, 1) := by decide +kernel
theorem d_Mo_define_78 : decode b_Mo_define 78 = .ok (.getfield 144, 3) := by decide +kernel
theorem d_Mo_define_81 : decode b_Mo_define 81 = .ok (.if_icmp .ge 55, 3) := by decide +kernel
theorem d_Mo_define_84 : decode b_Mo_define 84 = .ok (.aload_n 0, 1) := by decide +kernel
theorem d_Mo_define_85 : decode b_Mo_define 85 = .ok (.getfield 36, 3) := by decide +kernel
theorem d_Mo_define_88 : decode b_Mo_define 88 = .ok (.bipush 24, 2) := by decide +kernel
theorem d_Mo_define_90 : decode b_Mo_define 90 = .ok (.iload_n 2, 1) := by decide +kernel
theorem d_Mo_define_91 : decode b_Mo_define 91 = .ok (.imul, 1) := by decide +kernel
theorem d_Mo_define_92 : decode b_Mo_define 92 = .ok (.iload_n 3, 1) := by decide +kernel
theorem d_Mo_define_93 : decode b_Mo_define 93 = .ok (.iadd, 1) := by decide +kernel
theorem d_Mo_define_94 : decode b_Mo_define 94 = .ok (.aload_n 0, 1) := by decide +kernel
theorem d_Mo_define_95 : decode b_Mo_define 95 = .ok (.getfield 16, 3) := by decide +kernel
theorem d_Mo_define_98 : decode b_Mo_define 98 = .ok (.iload_n 3, 1) := by decide +kernel
theorem d_Mo_define_99 : decode b_Mo_define 99 = .ok (.iaload, 1) := by decide +kernel
theorem d_Mo_define_100 : decode b_Mo_define 100 = .ok (.iastore, 1) := by decide +kernel
theorem d_Mo_define_101 : decode b_Mo_define 101 = .ok (.aload_n 0, 1) := by decide +kernel
theorem d_Mo_define_102 : decode b_Mo_define 102 = .ok (.getfield 39, 3) := by decide +kernel
theorem d_Mo_define_105 : decode b_Mo_define 105 = .ok (.bipush 24, 2) := by decide +kernel
theorem d_Mo_define_107 : decode b_Mo_define 107 = .ok (.iload_n 2, 1) := by decide +kernel
theorem d_Mo_define_108 : decode b_Mo_define 108 = .ok (.imul, 1) := by decide +kernel
theorem d_Mo_define_109 : decode b_Mo_define 109 = .ok (.iload_n 3, 1) := by decide +kernel
theorem d_Mo_define_110 : decode b_Mo_define 110 = .ok (.iadd, 1) := by decide +kernel
theorem d_Mo_define_111 : decode b_Mo_define 111 = .ok (.aload_n 0, 1) := by decide +kernel
theorem d_Mo_define_112 : decode b_Mo_define 112 = .ok (.getfield 19, 3) := by decide +kernel
theorem d_Mo_define_115 : decode b_Mo_define 115 = .ok (.iload_n 3, 1) := by decide +kernel
theorem d_Mo_define_116 : decode b_Mo_define 116 = .ok (.iaload, 1) := by decide +kernel
theorem d_Mo_define_117 : decode b_Mo_define 117 = .ok (.iastore, 1) := by decide +kernel
theorem d_Mo_define_118 : decode b_Mo_define 118 = .ok (.aload_n 0, 1) := by decide +kernel
theorem d_Mo_define_119 : decode b_Mo_define 119 = .ok (.getfield 60, 3) := by decide +kernel
theorem d_Mo_define_122 : decode b_Mo_define 122 = .ok (.bipush 24, 2) := by decide +kernel
theorem d_Mo_define_124 : decode b_Mo_define 124 = .ok (.iload_n 2, 1) := by decide +kernel
theorem d_Mo_define_125 : decode b_Mo_define 125 = .ok (.imul, 1) := by decide +kernel
theorem d_Mo_define_126 : decode b_Mo_define 126 = .ok (.iload_n 3, 1) := by decide +kernel
theorem d_Mo_define_127 : decode b_Mo_define 127 = .ok (.iadd, 1) := by decide +kernel
theorem d_Mo_define_128 : decode b_Mo_define 128 = .ok (.iconst (-1), 1) := by decide +kernel
theorem d_Mo_define_129 : decode b_Mo_define 129 = .ok (.iastore, 1) := by decide +kernel
theorem d_Mo_define_130 : decode b_Mo_define 130 = .ok (.iinc 3 1, 3) := by decide +kernel
theorem d_Mo_define_133 : decode b_Mo_define 133 = .ok (.goto (-57), 3) := by decide +kernel
theorem d_Mo_define_136 : decode b_Mo_define 136 = .ok (.iconst 0, 1) := by decide +kernel
theorem d_Mo_define_137 : decode b_Mo_define 137 = .ok (.istore_n 3, 1) := by decide +kernel
theorem d_Mo_define_138 : decode b_Mo_define 138 = .ok (.iload_n 3, 1) := by decide +kernel
theorem d_Mo_define_139 : decode b_Mo_define 139 = .ok (.bipush 6, 2) := by decide +kernel
theorem d_Mo_define_141 : decode b_Mo_define 141 = .ok (.if_icmp .ge 26, 3) := by decide +kernel
theorem d_Mo_define_144 : decode b_Mo_define 144 = .ok (.aload_n 0, 1) := by decide +kernel
theorem d_Mo_define_145 : decode b_Mo_define 145 = .ok (.getfield 45, 3) := by decide +kernel
theorem d_Mo_define_148 : decode b_Mo_define 148 = .ok (.bipush 6, 2) := by decide +kernel
theorem d_Mo_define_150 : decode b_Mo_define 150 = .ok (.iload_n 2, 1) := by decide +kernel
theorem d_Mo_define_151 : decode b_Mo_define 151 = .ok (.imul, 1) := by decide +kernel
theorem d_Mo_define_152 : decode b_Mo_define 152 = .ok (.iload_n 3, 1) := by decide +kernel
theorem d_Mo_define_153 : decode b_Mo_define 153 = .ok (.iadd, 1) := by decide +kernel
theorem d_Mo_define_154 : decode b_Mo_define 154 = .ok (.aload_n 0, 1) := by decide +kernel
theorem d_Mo_define_155 : decode b_Mo_define 155 = .ok (.getfield 22, 3) := by decide +kernel
theorem d_Mo_define_158 : decode b_Mo_define 158 = .ok (.iload_n 3, 1) := by decide +kernel
theorem d_Mo_define_159 : decode b_Mo_define 159 = .ok (.iaload, 1) := by decide +kernel
theorem d_Mo_define_160 : decode b_Mo_define 160 = .ok (.iastore, 1) := by decide +kernel
theorem d_Mo_define_161 : decode b_Mo_define 161 = .ok (.iinc 3 1, 3) := by decide +kernel
theorem d_Mo_define_164 : decode b_Mo_define 164 = .ok (.goto (-26), 3) := by decide +kernel
theorem d_Mo_define_167 : decode b_Mo_define 167 = .ok (.aload_n 0, 1) := by decide +kernel
theorem d_Mo_define_168 : decode b_Mo_define 168 = .ok (.getfield 33, 3) := by decide +kernel
theorem d_Mo_define_171 : decode b_Mo_define 171 = .ok (.iload_n 2, 1) := by decide +kernel
theorem d_Mo_define_172 : decode b_Mo_define 172 = .ok (.aload_n 0, 1) := by decide +kernel
theorem d_Mo_define_173 : decode b_Mo_define 173 = .ok (.getfield 144, 3) := by decide +kernel
theorem d_Mo_define_176 : decode b_Mo_define 176 = .ok (.iastore, 1) := by decide +kernel
theorem d_Mo_define_177 : decode b_Mo_define 177 = .ok (.aload_n 0, 1) := by decide +kernel
theorem d_Mo_define_178 : decode b_Mo_define 178 = .ok (.getfield 42, 3) := by decide +kernel
theorem d_Mo_define_181 : decode b_Mo_define 181 = .ok (.iload_n 2, 1) := by decide +kernel
theorem d_Mo_define_182 : decode b_Mo_define 182 = .ok (.aload_n 0, 1) := by decide +kernel
theorem d_Mo_define_183 : decode b_Mo_define 183 = .ok (.getfield 147, 3) := by decide +kernel
theorem d_Mo_define_186 : decode b_Mo_define 186 = .ok (.iastore, 1) := by decide +kernel
theorem d_Mo_define_187 : decode b_Mo_define 187 = .ok (.aload_n 0, 1) := by decide +kernel
theorem d_Mo_define_188 : decode b_Mo_define 188 = .ok (.dup, 1) := by decide +kernel
theorem d_Mo_define_189 : decode b_Mo_define 189 = .ok (.getfield 154, 3) := by decide +kernel
theorem d_Mo_define_192 : decode b_Mo_define 192 = .ok (.iconst 1, 1) := by decide +kernel
theorem d_Mo_define_193 : decode b_Mo_define 193 = .ok (.iadd, 1) := by decide +kernel
theorem d_Mo_define_194 : decode b_Mo_define 194 = .ok (.putfield 154, 3) := by decide +kernel
theorem d_Mo_define_197 : decode b_Mo_define 197 = .ok (.aload_n 0, 1) := by decide +kernel
theorem d_Mo_define_198 : decode b_Mo_define 198 = .ok (.iload_n 2, 1) := by decide +kernel
theorem d_Mo_define_199 : decode b_Mo_define 199 = .ok (.invokevirtual 182, 3) := by decide +kernel
theorem d_Mo_define_202 : decode b_Mo_define 202 = .ok (.aload_n 0, 1) := by decide +kernel
theorem d_Mo_define_203 : decode b_Mo_define 203 = .ok (.iconst 0, 1) := by decide +kernel
theorem d_Mo_define_204 : decode b_Mo_define 204 = .ok (.putfield 144, 3) := by decide +kernel
theorem d_Mo_define_207 : decode b_Mo_define 207 = .ok (.aload_n 0, 1) := by decide +kernel
theorem d_Mo_define_208 : decode b_Mo_define 208 = .ok (.iconst 0, 1) := by decide +kernel
theorem d_Mo_define_209 : decode b_Mo_define 209 = .ok (.putfield 147, 3) := by decide +kernel
theorem d_Mo_define_212 : decode b_Mo_define 212 = .ok (.aload_n 0, 1) := by decide +kernel
theorem d_Mo_define_213 : decode b_Mo_define 213 = .ok (.getfield 122, 3) := by decide +kernel
theorem d_Mo_define_216 : decode b_Mo_define 216 = .ok (.ifCond .le 7, 3) := by decide +kernel
theorem d_Mo_define_219 : decode b_Mo_define 219 = .ok (.iconst 0, 1) := by decide +kernel
theorem d_Mo_define_220 : decode b_Mo_define 220 = .ok (.goto 9, 3) := by decide +kernel
theorem d_Mo_define_223 : decode b_Mo_define 223 = .ok (.aload_n 0, 1) := by decide +kernel
theorem d_Mo_define_224 : decode b_Mo_define 224 = .ok (.getfield 154, 3) := by decide +kernel
theorem d_Mo_define_227 : decode b_Mo_define 227 = .ok (.iconst 1, 1) := by decide +kernel
theorem d_Mo_define_228 : decode b_Mo_define 228 = .ok (.isub, 1) := by decide +kernel
theorem d_Mo_define_229 : decode b_Mo_define 229 = .ok (.ireturn, 1) := by decide +kernel
def j_Mo_define_202 (x0 : Nat) (M : fm_M) : Option (Int32 × fm_M) :=
  (pi x0 10 4 0 M).bind fun M101 =>
  (pi x0 10 7 0 M101).bind fun M103 =>
  (gi x0 10 0 M103).bind fun x105 =>
  if x105 ≤ 0 then
    (gi x0 10 9 M103).bind fun x108 =>
    some ((x108 - 1), M103)
  else
    some (0, M103)
def h_Mo_define_138 : Nat → Nat → Int32 → Int32 → fm_M → Option (Int32 × fm_M)
  | 0, _, _, _, _ => none
  | n + 1, x0, x2, x3, M =>
    if 6 ≤ x3 then
      (gr x0 10 13).bind fun q111 =>
      (gi x0 10 4 M).bind fun x113 =>
      (si q111 x2 x113 M).bind fun M115 =>
      (gr x0 10 16).bind fun q117 =>
      (gi x0 10 7 M115).bind fun x119 =>
      (si q117 x2 x119 M115).bind fun M121 =>
      (gi x0 10 9 M121).bind fun x123 =>
      (pi x0 10 9 (x123 + 1) M121).bind fun M125 =>
      (ck x0 10).bind fun _ =>
      (f_Mo_same x0 x2 M125).bind fun M128 =>
      j_Mo_define_202 x0 M128
    else
      (gr x0 10 17).bind fun q130 =>
      (gr x0 10 8).bind fun q132 =>
      (ai q132 x3 M).bind fun x134 =>
      (si q130 ((6 * x2) + x3) x134 M).bind fun M136 =>
      h_Mo_define_138 n x0 x2 (x3 + 1) M136
def h_Mo_define_76 : Nat → Nat → Int32 → Int32 → fm_M → Option (Int32 × fm_M)
  | 0, _, _, _, _ => none
  | n + 1, x0, x2, x3, M =>
    (gi x0 10 4 M).bind fun x138 =>
    if x138 ≤ x3 then
      h_Mo_define_138 100000 x0 x2 0 M
    else
      (gr x0 10 14).bind fun q141 =>
      (gr x0 10 5).bind fun q143 =>
      (ai q143 x3 M).bind fun x145 =>
      (si q141 ((24 * x2) + x3) x145 M).bind fun M147 =>
      (gr x0 10 15).bind fun q149 =>
      (gr x0 10 6).bind fun q151 =>
      (ai q151 x3 M147).bind fun x153 =>
      (si q149 ((24 * x2) + x3) x153 M147).bind fun M155 =>
      (gr x0 10 22).bind fun q157 =>
      (si q157 ((24 * x2) + x3) (-1) M155).bind fun M159 =>
      h_Mo_define_76 n x0 x2 (x3 + 1) M159
def j_Mo_define_59 (x0 : Nat) (s0 : Nat) (s1 : Int32) (M : fm_M) : Option (Int32 × fm_M) :=
  (pi s0 10 0 s1 M).bind fun M161 =>
  (gi x0 10 0 M161).bind fun x163 =>
  if x163 = 0 then
    (gi x0 10 9 M161).bind fun x166 =>
    h_Mo_define_76 100000 x0 x166 0 M161
  else
    j_Mo_define_202 x0 M161
def j_Mo_define_35 (x0 : Nat) (x1 : Int32) (s0 : Nat) (s1 : Int32) (M : fm_M) : Option (Int32 × fm_M) :=
  (pi s0 10 10 s1 M).bind fun M168 =>
  if x1 = 0 then
    j_Mo_define_59 x0 x0 1 M168
  else
    (gi x0 10 10 M168).bind fun x171 =>
    if x171 < 0 then
      j_Mo_define_59 x0 x0 0 M168
    else
      j_Mo_define_59 x0 x0 2 M168
def j_Mo_define_21 (x0 : Nat) (s0 : Int32) (M : fm_M) : Option (Int32 × fm_M) :=
  if s0 = 0 then
    j_Mo_define_35 x0 s0 x0 (-1) M
  else
    (ck x0 10).bind fun _ =>
    bd (f_Mo_malformed x0 M) fun x178 M176 =>
    j_Mo_define_35 x0 s0 x0 x178 M176
def j_Mo_define_20 (x0 : Nat) (M : fm_M) : Option (Int32 × fm_M) :=
  j_Mo_define_21 x0 0 M
def f_Mo_define (x0 : Nat) (M : fm_M) : Option (Int32 × fm_M) :=
  (gi x0 10 9 M).bind fun x179 =>
  if 6 ≤ x179 then
    j_Mo_define_20 x0 M
  else
    (gi x0 10 11 M).bind fun x182 =>
    if x182 = 0 then
      j_Mo_define_21 x0 1 M
    else
      j_Mo_define_20 x0 M
set_option maxHeartbeats 4000000 in
set_option maxRecDepth 100000 in
theorem w_Mo_define_202 {p : Program} {l : Launch} {e : Env} {s : State} {m : MethodId} {args : Array Value} {below : List Frame} {meth : Method} {c : Code} {G : fm_G} (C0 : fm_C p s m args meth c G (.code y_Mo_define b_Mo_define 4 (some .int)) "AllocationProfilerModel" b_Mo_define 4 (some .int)) {v : Int32} {M' : fm_M} (x0 : Nat) {M : fm_M} {H : Heap} {locs : List Loc} (hP : kP G M H) (hS : kS G s H locs) {ls : Array Slot} (hl : lv_has ls 4 [(0, .ref (G.2.2 + x0))]) (h : j_Mo_define_202 x0 M = some (v, M')) : W p l e rm_Mo_define s m args below meth c H locs 0 0 (MQ below (fm_Q G 212 shF (some (.int v)) M') args s 0 0 (fm_A G.2.2)) (F0 m 202 ls []) := by
  have hx := C0.1
  have hb := C0.2.1
  unfold j_Mo_define_202 at h
  refine lv_aload_n hx hb d_Mo_define_202 rfl (lv_at hl 0 rfl) ?_
  refine lv_iconst (v := 0) hx hb d_Mo_define_203 ic_0 ?_
  obtain ⟨M101, e102, h⟩ := ob h
  refine k_pi C0 F_Mo_144p ik_10_4 hP hS e102 d_Mo_define_204 (fun H locs hP hS => ?_)
  refine lv_aload_n hx hb d_Mo_define_207 rfl (lv_at hl 0 rfl) ?_
  refine lv_iconst (v := 0) hx hb d_Mo_define_208 ic_0 ?_
  obtain ⟨M103, e104, h⟩ := ob h
  refine k_pi C0 F_Mo_147p ik_10_7 hP hS e104 d_Mo_define_209 (fun H locs hP hS => ?_)
  refine lv_aload_n hx hb d_Mo_define_212 rfl (lv_at hl 0 rfl) ?_
  obtain ⟨x105, e106, h⟩ := ob h
  refine k_gi C0 F_Mo_122 ik_10_0 hP e106 d_Mo_define_213 ?_
  refine lv_if_le (tgt := 223) hx hb d_Mo_define_216 (by decide) (fun c107 => ?_) (fun c107 => ?_)
  · rw [if_pos c107] at h
    refine lv_aload_n hx hb d_Mo_define_223 rfl (lv_at hl 0 rfl) ?_
    obtain ⟨x108, e109, h⟩ := ob h
    refine k_gi C0 F_Mo_154 ik_10_9 hP e109 d_Mo_define_224 ?_
    refine lv_iconst (v := 1) hx hb d_Mo_define_227 ic_1 ?_
    refine lv_isub hx hb d_Mo_define_228 ?_
    cases h
    exact r_iret C0 hP hS d_Mo_define_229
  · rw [if_neg c107] at h
    refine lv_iconst (v := 0) hx hb d_Mo_define_219 ic_0 ?_
    refine lv_goto (tgt := 229) hx hb d_Mo_define_220 (by decide) ?_
    cases h
    exact r_iret C0 hP hS d_Mo_define_229
set_option maxHeartbeats 4000000 in
set_option maxRecDepth 100000 in
theorem w_Mo_define_138 {p : Program} {l : Launch} {e : Env} {s : State} {m : MethodId} {args : Array Value} {below : List Frame} {meth : Method} {c : Code} {G : fm_G} (C0 : fm_C p s m args meth c G (.code y_Mo_define b_Mo_define 4 (some .int)) "AllocationProfilerModel" b_Mo_define 4 (some .int)) {v : Int32} {M' : fm_M} : ∀ (n : Nat) (x0 : Nat) (x2 : Int32) (x3 : Int32) {M : fm_M} {H : Heap} {locs : List Loc}, kP G M H → kS G s H locs → ∀ {ls : Array Slot}, lv_has ls 4 [(0, .ref (G.2.2 + x0)), (2, .int x2), (3, .int x3)] → h_Mo_define_138 n x0 x2 x3 M = some (v, M') → W p l e rm_Mo_define s m args below meth c H locs 0 0 (MQ below (fm_Q G 212 shF (some (.int v)) M') args s 0 0 (fm_A G.2.2)) (F0 m 138 ls []) := by
  have hx := C0.1
  have hb := C0.2.1
  intro n
  induction n with
  | zero =>
    intro x0 x2 x3 M H locs hP hS ls hl h
    exact nomatch h
  | succ n ih =>
    intro x0 x2 x3 M H locs hP hS ls hl h
    have h : (if 6 ≤ x3 then
        (gr x0 10 13).bind fun q111 =>
        (gi x0 10 4 M).bind fun x113 =>
        (si q111 x2 x113 M).bind fun M115 =>
        (gr x0 10 16).bind fun q117 =>
        (gi x0 10 7 M115).bind fun x119 =>
        (si q117 x2 x119 M115).bind fun M121 =>
        (gi x0 10 9 M121).bind fun x123 =>
        (pi x0 10 9 (x123 + 1) M121).bind fun M125 =>
        (ck x0 10).bind fun _ =>
        (f_Mo_same x0 x2 M125).bind fun M128 =>
        j_Mo_define_202 x0 M128
      else
        (gr x0 10 17).bind fun q130 =>
        (gr x0 10 8).bind fun q132 =>
        (ai q132 x3 M).bind fun x134 =>
        (si q130 ((6 * x2) + x3) x134 M).bind fun M136 =>
        h_Mo_define_138 n x0 x2 (x3 + 1) M136) = some (v, M') := h
    refine lv_iload_n hx hb d_Mo_define_138 rfl (lv_at hl 2 rfl) ?_
    refine lv_bipush (v := 6) hx hb d_Mo_define_139 bp_6 ?_
    refine lv_icmp_ge (tgt := 167) hx hb d_Mo_define_141 (by decide) (fun c110 => ?_) (fun c110 => ?_)
    · rw [if_pos c110] at h
      refine lv_aload_n hx hb d_Mo_define_167 rfl (lv_at hl 0 rfl) ?_
      obtain ⟨q111, e112, h⟩ := ob h
      refine k_gr C0 F_Mo_33 hP e112 d_Mo_define_168 ?_
      refine lv_iload_n hx hb d_Mo_define_171 rfl (lv_at hl 1 rfl) ?_
      refine lv_aload_n hx hb d_Mo_define_172 rfl (lv_at hl 0 rfl) ?_
      obtain ⟨x113, e114, h⟩ := ob h
      refine k_gi C0 F_Mo_144 ik_10_4 hP e114 d_Mo_define_173 ?_
      obtain ⟨M115, e116, h⟩ := ob h
      refine k_si C0 hP hS e116 d_Mo_define_176 (fun H locs hP hS => ?_)
      refine lv_aload_n hx hb d_Mo_define_177 rfl (lv_at hl 0 rfl) ?_
      obtain ⟨q117, e118, h⟩ := ob h
      refine k_gr C0 F_Mo_42 hP e118 d_Mo_define_178 ?_
      refine lv_iload_n hx hb d_Mo_define_181 rfl (lv_at hl 1 rfl) ?_
      refine lv_aload_n hx hb d_Mo_define_182 rfl (lv_at hl 0 rfl) ?_
      obtain ⟨x119, e120, h⟩ := ob h
      refine k_gi C0 F_Mo_147 ik_10_7 hP e120 d_Mo_define_183 ?_
      obtain ⟨M121, e122, h⟩ := ob h
      refine k_si C0 hP hS e122 d_Mo_define_186 (fun H locs hP hS => ?_)
      refine lv_aload_n hx hb d_Mo_define_187 rfl (lv_at hl 0 rfl) ?_
      refine lv_dup hx hb d_Mo_define_188 rfl ?_
      obtain ⟨x123, e124, h⟩ := ob h
      refine k_gi C0 F_Mo_154 ik_10_9 hP e124 d_Mo_define_189 ?_
      refine lv_iconst (v := 1) hx hb d_Mo_define_192 ic_1 ?_
      refine lv_iadd hx hb d_Mo_define_193 ?_
      obtain ⟨M125, e126, h⟩ := ob h
      refine k_pi C0 F_Mo_154p ik_10_9 hP hS e126 d_Mo_define_194 (fun H locs hP hS => ?_)
      refine lv_aload_n hx hb d_Mo_define_197 rfl (lv_at hl 0 rfl) ?_
      refine lv_iload_n hx hb d_Mo_define_198 rfl (lv_at hl 1 rfl) ?_
      obtain ⟨_, e127, h⟩ := ob h
      obtain ⟨M128, e129, h⟩ := ob h
      refine k_cVv C0 L_Mo_182 (As := [.int x2]) (c_Mo_same l G x0 x2 e129) ⟨rfl, rfl⟩ ⟨Nat.le_of_ble_eq_true rfl, Nat.le_of_ble_eq_true rfl⟩ hP hS (ck_of e127) ly_Mo rfl hl.1 rfl (Nat.le_of_ble_eq_true rfl) d_Mo_define_199 ⟨Nat.zero_le _, Nat.zero_le _⟩ (fun H locs hP hS => ?_)
      exact w_Mo_define_202 C0 x0 hP hS (lv_sub hl [0] rfl) h
    · rw [if_neg c110] at h
      refine lv_aload_n hx hb d_Mo_define_144 rfl (lv_at hl 0 rfl) ?_
      obtain ⟨q130, e131, h⟩ := ob h
      refine k_gr C0 F_Mo_45 hP e131 d_Mo_define_145 ?_
      refine lv_bipush (v := 6) hx hb d_Mo_define_148 bp_6 ?_
      refine lv_iload_n hx hb d_Mo_define_150 rfl (lv_at hl 1 rfl) ?_
      refine lv_imul hx hb d_Mo_define_151 ?_
      refine lv_iload_n hx hb d_Mo_define_152 rfl (lv_at hl 2 rfl) ?_
      refine lv_iadd hx hb d_Mo_define_153 ?_
      refine lv_aload_n hx hb d_Mo_define_154 rfl (lv_at hl 0 rfl) ?_
      obtain ⟨q132, e133, h⟩ := ob h
      refine k_gr C0 F_Mo_22 hP e133 d_Mo_define_155 ?_
      refine lv_iload_n hx hb d_Mo_define_158 rfl (lv_at hl 2 rfl) ?_
      obtain ⟨x134, e135, h⟩ := ob h
      refine k_ai C0 hP e135 d_Mo_define_159 ?_
      obtain ⟨M136, e137, h⟩ := ob h
      refine k_si C0 hP hS e137 d_Mo_define_160 (fun H locs hP hS => ?_)
      refine lv_iinc (v := (x3 + 1)) (lv' := [(3, .int (x3 + 1)), (0, .ref (G.2.2 + x0)), (2, .int x2)]) hx hb d_Mo_define_161 hl (k := 2) rfl (congrArg (fun z => x3 + z) ic_1) (by decide) rfl (fun ls hl => ?_)
      refine lv_goto (tgt := 138) hx hb d_Mo_define_164 (by decide) ?_
      exact ih x0 x2 (x3 + 1) hP hS (lv_sub hl [1, 2, 0] rfl) h
set_option maxHeartbeats 4000000 in
set_option maxRecDepth 100000 in
theorem w_Mo_define_76 {p : Program} {l : Launch} {e : Env} {s : State} {m : MethodId} {args : Array Value} {below : List Frame} {meth : Method} {c : Code} {G : fm_G} (C0 : fm_C p s m args meth c G (.code y_Mo_define b_Mo_define 4 (some .int)) "AllocationProfilerModel" b_Mo_define 4 (some .int)) {v : Int32} {M' : fm_M} : ∀ (n : Nat) (x0 : Nat) (x2 : Int32) (x3 : Int32) {M : fm_M} {H : Heap} {locs : List Loc}, kP G M H → kS G s H locs → ∀ {ls : Array Slot}, lv_has ls 4 [(0, .ref (G.2.2 + x0)), (2, .int x2), (3, .int x3)] → h_Mo_define_76 n x0 x2 x3 M = some (v, M') → W p l e rm_Mo_define s m args below meth c H locs 0 0 (MQ below (fm_Q G 212 shF (some (.int v)) M') args s 0 0 (fm_A G.2.2)) (F0 m 76 ls []) := by
  have hx := C0.1
  have hb := C0.2.1
  intro n
  induction n with
  | zero =>
    intro x0 x2 x3 M H locs hP hS ls hl h
    exact nomatch h
  | succ n ih =>
    intro x0 x2 x3 M H locs hP hS ls hl h
    have h : ((gi x0 10 4 M).bind fun x138 =>
      if x138 ≤ x3 then
        h_Mo_define_138 100000 x0 x2 0 M
      else
        (gr x0 10 14).bind fun q141 =>
        (gr x0 10 5).bind fun q143 =>
        (ai q143 x3 M).bind fun x145 =>
        (si q141 ((24 * x2) + x3) x145 M).bind fun M147 =>
        (gr x0 10 15).bind fun q149 =>
        (gr x0 10 6).bind fun q151 =>
        (ai q151 x3 M147).bind fun x153 =>
        (si q149 ((24 * x2) + x3) x153 M147).bind fun M155 =>
        (gr x0 10 22).bind fun q157 =>
        (si q157 ((24 * x2) + x3) (-1) M155).bind fun M159 =>
        h_Mo_define_76 n x0 x2 (x3 + 1) M159) = some (v, M') := h
    refine lv_iload_n hx hb d_Mo_define_76 rfl (lv_at hl 2 rfl) ?_
    refine lv_aload_n hx hb d_Mo_define_77 rfl (lv_at hl 0 rfl) ?_
    obtain ⟨x138, e139, h⟩ := ob h
    refine k_gi C0 F_Mo_144 ik_10_4 hP e139 d_Mo_define_78 ?_
    refine lv_icmp_ge (tgt := 136) hx hb d_Mo_define_81 (by decide) (fun c140 => ?_) (fun c140 => ?_)
    · rw [if_pos c140] at h
      refine lv_iconst (v := 0) hx hb d_Mo_define_136 ic_0 ?_
      refine lv_istore_n (lv' := [(3, .int 0), (0, .ref (G.2.2 + x0)), (2, .int x2)]) hx hb d_Mo_define_137 rfl hl (by decide) rfl (fun ls hl => ?_)
      exact w_Mo_define_138 C0 100000 x0 x2 0 hP hS (lv_sub hl [1, 2, 0] rfl) h
    · rw [if_neg c140] at h
      refine lv_aload_n hx hb d_Mo_define_84 rfl (lv_at hl 0 rfl) ?_
      obtain ⟨q141, e142, h⟩ := ob h
      refine k_gr C0 F_Mo_36 hP e142 d_Mo_define_85 ?_
      refine lv_bipush (v := 24) hx hb d_Mo_define_88 bp_24 ?_
      refine lv_iload_n hx hb d_Mo_define_90 rfl (lv_at hl 1 rfl) ?_
      refine lv_imul hx hb d_Mo_define_91 ?_
      refine lv_iload_n hx hb d_Mo_define_92 rfl (lv_at hl 2 rfl) ?_
      refine lv_iadd hx hb d_Mo_define_93 ?_
      refine lv_aload_n hx hb d_Mo_define_94 rfl (lv_at hl 0 rfl) ?_
      obtain ⟨q143, e144, h⟩ := ob h
      refine k_gr C0 F_Mo_16 hP e144 d_Mo_define_95 ?_
      refine lv_iload_n hx hb d_Mo_define_98 rfl (lv_at hl 2 rfl) ?_
      obtain ⟨x145, e146, h⟩ := ob h
      refine k_ai C0 hP e146 d_Mo_define_99 ?_
      obtain ⟨M147, e148, h⟩ := ob h
      refine k_si C0 hP hS e148 d_Mo_define_100 (fun H locs hP hS => ?_)
      refine lv_aload_n hx hb d_Mo_define_101 rfl (lv_at hl 0 rfl) ?_
      obtain ⟨q149, e150, h⟩ := ob h
      refine k_gr C0 F_Mo_39 hP e150 d_Mo_define_102 ?_
      refine lv_bipush (v := 24) hx hb d_Mo_define_105 bp_24 ?_
      refine lv_iload_n hx hb d_Mo_define_107 rfl (lv_at hl 1 rfl) ?_
      refine lv_imul hx hb d_Mo_define_108 ?_
      refine lv_iload_n hx hb d_Mo_define_109 rfl (lv_at hl 2 rfl) ?_
      refine lv_iadd hx hb d_Mo_define_110 ?_
      refine lv_aload_n hx hb d_Mo_define_111 rfl (lv_at hl 0 rfl) ?_
      obtain ⟨q151, e152, h⟩ := ob h
      refine k_gr C0 F_Mo_19 hP e152 d_Mo_define_112 ?_
      refine lv_iload_n hx hb d_Mo_define_115 rfl (lv_at hl 2 rfl) ?_
      obtain ⟨x153, e154, h⟩ := ob h
      refine k_ai C0 hP e154 d_Mo_define_116 ?_
      obtain ⟨M155, e156, h⟩ := ob h
      refine k_si C0 hP hS e156 d_Mo_define_117 (fun H locs hP hS => ?_)
      refine lv_aload_n hx hb d_Mo_define_118 rfl (lv_at hl 0 rfl) ?_
      obtain ⟨q157, e158, h⟩ := ob h
      refine k_gr C0 F_Mo_60 hP e158 d_Mo_define_119 ?_
      refine lv_bipush (v := 24) hx hb d_Mo_define_122 bp_24 ?_
      refine lv_iload_n hx hb d_Mo_define_124 rfl (lv_at hl 1 rfl) ?_
      refine lv_imul hx hb d_Mo_define_125 ?_
      refine lv_iload_n hx hb d_Mo_define_126 rfl (lv_at hl 2 rfl) ?_
      refine lv_iadd hx hb d_Mo_define_127 ?_
      refine lv_iconst (v := (-1)) hx hb d_Mo_define_128 ic_m1 ?_
      obtain ⟨M159, e160, h⟩ := ob h
      refine k_si C0 hP hS e160 d_Mo_define_129 (fun H locs hP hS => ?_)
      refine lv_iinc (v := (x3 + 1)) (lv' := [(3, .int (x3 + 1)), (0, .ref (G.2.2 + x0)), (2, .int x2)]) hx hb d_Mo_define_130 hl (k := 2) rfl (congrArg (fun z => x3 + z) ic_1) (by decide) rfl (fun ls hl => ?_)
      refine lv_goto (tgt := 76) hx hb d_Mo_define_133 (by decide) ?_
      exact ih x0 x2 (x3 + 1) hP hS (lv_sub hl [1, 2, 0] rfl) h
set_option maxHeartbeats 4000000 in
set_option maxRecDepth 100000 in
theorem w_Mo_define_59 {p : Program} {l : Launch} {e : Env} {s : State} {m : MethodId} {args : Array Value} {below : List Frame} {meth : Method} {c : Code} {G : fm_G} (C0 : fm_C p s m args meth c G (.code y_Mo_define b_Mo_define 4 (some .int)) "AllocationProfilerModel" b_Mo_define 4 (some .int)) {v : Int32} {M' : fm_M} (x0 : Nat) (s0 : Nat) (s1 : Int32) {M : fm_M} {H : Heap} {locs : List Loc} (hP : kP G M H) (hS : kS G s H locs) {ls : Array Slot} (hl : lv_has ls 4 [(0, .ref (G.2.2 + x0))]) (h : j_Mo_define_59 x0 s0 s1 M = some (v, M')) : W p l e rm_Mo_define s m args below meth c H locs 0 0 (MQ below (fm_Q G 212 shF (some (.int v)) M') args s 0 0 (fm_A G.2.2)) (F0 m 59 ls [.int s1, .ref (G.2.2 + s0)]) := by
  have hx := C0.1
  have hb := C0.2.1
  unfold j_Mo_define_59 at h
  obtain ⟨M161, e162, h⟩ := ob h
  refine k_pi C0 F_Mo_122p ik_10_0 hP hS e162 d_Mo_define_59 (fun H locs hP hS => ?_)
  refine lv_aload_n hx hb d_Mo_define_62 rfl (lv_at hl 0 rfl) ?_
  obtain ⟨x163, e164, h⟩ := ob h
  refine k_gi C0 F_Mo_122 ik_10_0 hP e164 d_Mo_define_63 ?_
  refine lv_if_ne (tgt := 202) hx hb d_Mo_define_66 (by decide) (fun c165 => ?_) (fun c165 => ?_)
  · rw [if_neg c165] at h
    exact w_Mo_define_202 C0 x0 hP hS (lv_sub hl [0] rfl) h
  · rw [if_pos c165] at h
    refine lv_aload_n hx hb d_Mo_define_69 rfl (lv_at hl 0 rfl) ?_
    obtain ⟨x166, e167, h⟩ := ob h
    refine k_gi C0 F_Mo_154 ik_10_9 hP e167 d_Mo_define_70 ?_
    refine lv_istore_n (lv' := [(2, .int x166), (0, .ref (G.2.2 + x0))]) hx hb d_Mo_define_73 rfl hl (by decide) rfl (fun ls hl => ?_)
    refine lv_iconst (v := 0) hx hb d_Mo_define_74 ic_0 ?_
    refine lv_istore_n (lv' := [(3, .int 0), (2, .int x166), (0, .ref (G.2.2 + x0))]) hx hb d_Mo_define_75 rfl hl (by decide) rfl (fun ls hl => ?_)
    exact w_Mo_define_76 C0 100000 x0 x166 0 hP hS (lv_sub hl [2, 1, 0] rfl) h
set_option maxHeartbeats 4000000 in
set_option maxRecDepth 100000 in
theorem w_Mo_define_35 {p : Program} {l : Launch} {e : Env} {s : State} {m : MethodId} {args : Array Value} {below : List Frame} {meth : Method} {c : Code} {G : fm_G} (C0 : fm_C p s m args meth c G (.code y_Mo_define b_Mo_define 4 (some .int)) "AllocationProfilerModel" b_Mo_define 4 (some .int)) {v : Int32} {M' : fm_M} (x0 : Nat) (x1 : Int32) (s0 : Nat) (s1 : Int32) {M : fm_M} {H : Heap} {locs : List Loc} (hP : kP G M H) (hS : kS G s H locs) {ls : Array Slot} (hl : lv_has ls 4 [(0, .ref (G.2.2 + x0)), (1, .int x1)]) (h : j_Mo_define_35 x0 x1 s0 s1 M = some (v, M')) : W p l e rm_Mo_define s m args below meth c H locs 0 0 (MQ below (fm_Q G 212 shF (some (.int v)) M') args s 0 0 (fm_A G.2.2)) (F0 m 35 ls [.int s1, .ref (G.2.2 + s0)]) := by
  have hx := C0.1
  have hb := C0.2.1
  unfold j_Mo_define_35 at h
  obtain ⟨M168, e169, h⟩ := ob h
  refine k_pi C0 F_Mo_25p ik_10_10 hP hS e169 d_Mo_define_35 (fun H locs hP hS => ?_)
  refine lv_aload_n hx hb d_Mo_define_38 rfl (lv_at hl 0 rfl) ?_
  refine lv_iload_n hx hb d_Mo_define_39 rfl (lv_at hl 1 rfl) ?_
  refine lv_if_ne (tgt := 47) hx hb d_Mo_define_40 (by decide) (fun c170 => ?_) (fun c170 => ?_)
  · rw [if_neg c170] at h
    refine lv_aload_n hx hb d_Mo_define_47 rfl (lv_at hl 0 rfl) ?_
    obtain ⟨x171, e172, h⟩ := ob h
    refine k_gi C0 F_Mo_25 ik_10_10 hP e172 d_Mo_define_48 ?_
    refine lv_if_lt (tgt := 58) hx hb d_Mo_define_51 (by decide) (fun c173 => ?_) (fun c173 => ?_)
    · rw [if_pos c173] at h
      refine lv_iconst (v := 0) hx hb d_Mo_define_58 ic_0 ?_
      exact w_Mo_define_59 C0 x0 x0 0 hP hS (lv_sub hl [0] rfl) h
    · rw [if_neg c173] at h
      refine lv_iconst (v := 2) hx hb d_Mo_define_54 ic_2 ?_
      refine lv_goto (tgt := 59) hx hb d_Mo_define_55 (by decide) ?_
      exact w_Mo_define_59 C0 x0 x0 2 hP hS (lv_sub hl [0] rfl) h
  · rw [if_pos c170] at h
    refine lv_iconst (v := 1) hx hb d_Mo_define_43 ic_1 ?_
    refine lv_goto (tgt := 59) hx hb d_Mo_define_44 (by decide) ?_
    exact w_Mo_define_59 C0 x0 x0 1 hP hS (lv_sub hl [0] rfl) h
set_option maxHeartbeats 4000000 in
set_option maxRecDepth 100000 in
theorem w_Mo_define_21 {p : Program} {l : Launch} {e : Env} {s : State} {m : MethodId} {args : Array Value} {below : List Frame} {meth : Method} {c : Code} {G : fm_G} (C0 : fm_C p s m args meth c G (.code y_Mo_define b_Mo_define 4 (some .int)) "AllocationProfilerModel" b_Mo_define 4 (some .int)) {v : Int32} {M' : fm_M} (x0 : Nat) (s0 : Int32) {M : fm_M} {H : Heap} {locs : List Loc} (hP : kP G M H) (hS : kS G s H locs) {ls : Array Slot} (hl : lv_has ls 4 [(0, .ref (G.2.2 + x0))]) (h : j_Mo_define_21 x0 s0 M = some (v, M')) : W p l e rm_Mo_define s m args below meth c H locs 0 0 (MQ below (fm_Q G 212 shF (some (.int v)) M') args s 0 0 (fm_A G.2.2)) (F0 m 21 ls [.int s0]) := by
  have hx := C0.1
  have hb := C0.2.1
  unfold j_Mo_define_21 at h
  refine lv_istore_n (lv' := [(1, .int s0), (0, .ref (G.2.2 + x0))]) hx hb d_Mo_define_21 rfl hl (by decide) rfl (fun ls hl => ?_)
  refine lv_aload_n hx hb d_Mo_define_22 rfl (lv_at hl 1 rfl) ?_
  refine lv_iload_n hx hb d_Mo_define_23 rfl (lv_at hl 0 rfl) ?_
  refine lv_if_eq (tgt := 34) hx hb d_Mo_define_24 (by decide) (fun c174 => ?_) (fun c174 => ?_)
  · rw [if_pos c174] at h
    refine lv_iconst (v := (-1)) hx hb d_Mo_define_34 ic_m1 ?_
    exact w_Mo_define_35 C0 x0 s0 x0 (-1) hP hS (lv_sub hl [1, 0] rfl) h
  · rw [if_neg c174] at h
    refine lv_aload_n hx hb d_Mo_define_27 rfl (lv_at hl 1 rfl) ?_
    obtain ⟨_, e175, h⟩ := ob h
    obtain ⟨x178, M176, e177, h⟩ := ob2 h
    refine k_cV C0 L_Mo_179 (As := []) (c_Mo_malformed l G x0 e177) ⟨rfl, rfl⟩ ⟨Nat.le_of_ble_eq_true rfl, Nat.le_of_ble_eq_true rfl⟩ hP hS (ck_of e175) ly_Mo rfl hl.1 rfl (Nat.le_of_ble_eq_true rfl) d_Mo_define_28 ⟨Nat.zero_le _, Nat.zero_le _⟩ (fun H locs hP hS => ?_)
    refine lv_goto (tgt := 35) hx hb d_Mo_define_31 (by decide) ?_
    exact w_Mo_define_35 C0 x0 s0 x0 x178 hP hS (lv_sub hl [1, 0] rfl) h
set_option maxHeartbeats 4000000 in
set_option maxRecDepth 100000 in
theorem w_Mo_define_20 {p : Program} {l : Launch} {e : Env} {s : State} {m : MethodId} {args : Array Value} {below : List Frame} {meth : Method} {c : Code} {G : fm_G} (C0 : fm_C p s m args meth c G (.code y_Mo_define b_Mo_define 4 (some .int)) "AllocationProfilerModel" b_Mo_define 4 (some .int)) {v : Int32} {M' : fm_M} (x0 : Nat) {M : fm_M} {H : Heap} {locs : List Loc} (hP : kP G M H) (hS : kS G s H locs) {ls : Array Slot} (hl : lv_has ls 4 [(0, .ref (G.2.2 + x0))]) (h : j_Mo_define_20 x0 M = some (v, M')) : W p l e rm_Mo_define s m args below meth c H locs 0 0 (MQ below (fm_Q G 212 shF (some (.int v)) M') args s 0 0 (fm_A G.2.2)) (F0 m 20 ls []) := by
  have hx := C0.1
  have hb := C0.2.1
  unfold j_Mo_define_20 at h
  refine lv_iconst (v := 0) hx hb d_Mo_define_20 ic_0 ?_
  exact w_Mo_define_21 C0 x0 0 hP hS (lv_sub hl [0] rfl) h
set_option maxHeartbeats 4000000 in
set_option maxRecDepth 100000 in
theorem c_Mo_define (l : Launch) (G : fm_G) (x0 : Nat) {v : Int32} {M M' : fm_M} (h : f_Mo_define x0 M = some (v, M')) : kMet l y_Mo_define b_Mo_define 4 (some .int) rm_Mo_define G M [.ref (G.2.2 + x0)] (some (.int v)) M' := by
  refine r_met (by decide) rfl (Nat.le_of_ble_eq_true rfl) (fun p e s m args below meth c C0 hP ls hl => ?_)
  have hx := C0.1
  have hb := C0.2.1
  have hl : lv_has ls 4 [(0, .ref (G.2.2 + x0))] := hl
  have hS : va_S (fm_A G.2.2) s.heap s.heap [] := va_S.rf
  unfold f_Mo_define at h
  refine lv_aload_n hx hb d_Mo_define_0 rfl (lv_at hl 0 rfl) ?_
  obtain ⟨x179, e180, h⟩ := ob h
  refine k_gi C0 F_Mo_154 ik_10_9 hP e180 d_Mo_define_1 ?_
  refine lv_bipush (v := 6) hx hb d_Mo_define_4 bp_6 ?_
  refine lv_icmp_ge (tgt := 20) hx hb d_Mo_define_6 (by decide) (fun c181 => ?_) (fun c181 => ?_)
  · rw [if_pos c181] at h
    exact w_Mo_define_20 C0 x0 hP hS (lv_sub hl [0] rfl) h
  · rw [if_neg c181] at h
    refine lv_aload_n hx hb d_Mo_define_9 rfl (lv_at hl 0 rfl) ?_
    obtain ⟨x182, e183, h⟩ := ob h
    refine k_gi C0 F_Mo_132 ik_10_11 hP e183 d_Mo_define_10 ?_
    refine lv_if_ne (tgt := 20) hx hb d_Mo_define_13 (by decide) (fun c184 => ?_) (fun c184 => ?_)
    · rw [if_neg c184] at h
      exact w_Mo_define_20 C0 x0 hP hS (lv_sub hl [0] rfl) h
    · rw [if_pos c184] at h
      refine lv_iconst (v := 1) hx hb d_Mo_define_16 ic_1 ?_
      refine lv_goto (tgt := 21) hx hb d_Mo_define_17 (by decide) ?_
      exact w_Mo_define_21 C0 x0 1 hP hS (lv_sub hl [0] rfl) h
/-! AllocationProfilerModel.fault -/
def rm_Mo_fault : Room := { frames := 0, cells := 0, slots := 0, locals := 0 }
theorem d_Mo_fault_0 : decode b_Mo_fault 0 = .ok (.aload_n 0, 1) := by decide +kernel
theorem d_Mo_fault_1 : decode b_Mo_fault 1 = .ok (.iconst 0, 1) := by decide +kernel
theorem d_Mo_fault_2 : decode b_Mo_fault 2 = .ok (.putfield 122, 3) := by decide +kernel
theorem d_Mo_fault_5 : decode b_Mo_fault 5 = .ok (.aload_n 0, 1) := by decide +kernel
theorem d_Mo_fault_6 : decode b_Mo_fault 6 = .ok (.getfield 25, 3) := by decide +kernel
theorem d_Mo_fault_9 : decode b_Mo_fault 9 = .ok (.ireturn, 1) := by decide +kernel
def f_Mo_fault (x0 : Nat) (M : fm_M) : Option (Int32 × fm_M) :=
  (pi x0 10 0 0 M).bind fun M101 =>
  (gi x0 10 10 M101).bind fun x103 =>
  some (x103, M101)
set_option maxHeartbeats 4000000 in
set_option maxRecDepth 100000 in
theorem c_Mo_fault (l : Launch) (G : fm_G) (x0 : Nat) {v : Int32} {M M' : fm_M} (h : f_Mo_fault x0 M = some (v, M')) : kMet l y_Mo_fault b_Mo_fault 1 (some .int) rm_Mo_fault G M [.ref (G.2.2 + x0)] (some (.int v)) M' := by
  refine r_met (by decide) rfl (Nat.le_of_ble_eq_true rfl) (fun p e s m args below meth c C0 hP ls hl => ?_)
  have hx := C0.1
  have hb := C0.2.1
  have hl : lv_has ls 1 [(0, .ref (G.2.2 + x0))] := hl
  have hS : va_S (fm_A G.2.2) s.heap s.heap [] := va_S.rf
  unfold f_Mo_fault at h
  refine lv_aload_n hx hb d_Mo_fault_0 rfl (lv_at hl 0 rfl) ?_
  refine lv_iconst (v := 0) hx hb d_Mo_fault_1 ic_0 ?_
  obtain ⟨M101, e102, h⟩ := ob h
  refine k_pi C0 F_Mo_122p ik_10_0 hP hS e102 d_Mo_fault_2 (fun H locs hP hS => ?_)
  refine lv_aload_n hx hb d_Mo_fault_5 rfl (lv_at hl 0 rfl) ?_
  obtain ⟨x103, e104, h⟩ := ob h
  refine k_gi C0 F_Mo_25 ik_10_10 hP e104 d_Mo_fault_6 ?_
  cases h
  exact r_iret C0 hP hS d_Mo_fault_9
/-! AllocationProfilerModel.exclude -/
def rm_Mo_exclude : Room := { frames := 1, cells := 0, slots := 0, locals := 21 }
theorem d_Mo_exclude_0 : decode b_Mo_exclude 0 = .ok (.aload_n 0, 1) := by decide +kernel
theorem d_Mo_exclude_1 : decode b_Mo_exclude 1 = .ok (.iload_n 1, 1) := by decide +kernel
theorem d_Mo_exclude_2 : decode b_Mo_exclude 2 = .ok (.aload_n 0, 1) := by decide +kernel
theorem d_Mo_exclude_3 : decode b_Mo_exclude 3 = .ok (.getfield 154, 3) := by decide +kernel
theorem d_Mo_exclude_6 : decode b_Mo_exclude 6 = .ok (.invokestatic 128, 3) := by decide +kernel
theorem d_Mo_exclude_9 : decode b_Mo_exclude 9 = .ok (.ifCond .eq 7, 3) := by decide +kernel
theorem d_Mo_exclude_12 : decode b_Mo_exclude 12 = .ok (.iconst 1, 1) := by decide +kernel
theorem d_Mo_exclude_13 : decode b_Mo_exclude 13 = .ok (.goto 15, 3) := by decide +kernel
theorem d_Mo_exclude_16 : decode b_Mo_exclude 16 = .ok (.aload_n 0, 1) := by decide +kernel
theorem d_Mo_exclude_17 : decode b_Mo_exclude 17 = .ok (.getfield 132, 3) := by decide +kernel
theorem d_Mo_exclude_20 : decode b_Mo_exclude 20 = .ok (.ifCond .eq 7, 3) := by decide +kernel
theorem d_Mo_exclude_23 : decode b_Mo_exclude 23 = .ok (.iconst 2, 1) := by decide +kernel
theorem d_Mo_exclude_24 : decode b_Mo_exclude 24 = .ok (.goto 4, 3) := by decide +kernel
theorem d_Mo_exclude_27 : decode b_Mo_exclude 27 = .ok (.iconst 0, 1) := by decide +kernel
theorem d_Mo_exclude_28 : decode b_Mo_exclude 28 = .ok (.putfield 122, 3) := by decide +kernel
theorem d_Mo_exclude_31 : decode b_Mo_exclude 31 = .ok (.aload_n 0, 1) := by decide +kernel
theorem d_Mo_exclude_32 : decode b_Mo_exclude 32 = .ok (.getfield 122, 3) := by decide +kernel
theorem d_Mo_exclude_35 : decode b_Mo_exclude 35 = .ok (.ifCond .ne 10, 3) := by decide +kernel
theorem d_Mo_exclude_38 : decode b_Mo_exclude 38 = .ok (.aload_n 0, 1) := by decide +kernel
theorem d_Mo_exclude_39 : decode b_Mo_exclude 39 = .ok (.getfield 29, 3) := by decide +kernel
theorem d_Mo_exclude_42 : decode b_Mo_exclude 42 = .ok (.iload_n 1, 1) := by decide +kernel
theorem d_Mo_exclude_43 : decode b_Mo_exclude 43 = .ok (.iconst 1, 1) := by decide +kernel
theorem d_Mo_exclude_44 : decode b_Mo_exclude 44 = .ok (.bastore, 1) := by decide +kernel
theorem d_Mo_exclude_45 : decode b_Mo_exclude 45 = .ok (.return_, 1) := by decide +kernel
def j_Mo_exclude_28 (x0 : Nat) (x1 : Int32) (s0 : Nat) (s1 : Int32) (M : fm_M) : Option fm_M :=
  (pi s0 10 0 s1 M).bind fun M101 =>
  (gi x0 10 0 M101).bind fun x103 =>
  if x103 = 0 then
    (gr x0 10 12).bind fun q106 =>
    (sz q106 x1 1 M101).bind fun M108 =>
    some M108
  else
    some M101
def f_Mo_exclude (x0 : Nat) (x1 : Int32) (M : fm_M) : Option fm_M :=
  (gi x0 10 9 M).bind fun x110 =>
  bd (f_Mo_out x1 x110 M) fun x114 M112 =>
  if x114 = 0 then
    (gi x0 10 11 M112).bind fun x116 =>
    if x116 = 0 then
      j_Mo_exclude_28 x0 x1 x0 0 M112
    else
      j_Mo_exclude_28 x0 x1 x0 2 M112
  else
    j_Mo_exclude_28 x0 x1 x0 1 M112
set_option maxHeartbeats 4000000 in
set_option maxRecDepth 100000 in
theorem w_Mo_exclude_28 {p : Program} {l : Launch} {e : Env} {s : State} {m : MethodId} {args : Array Value} {below : List Frame} {meth : Method} {c : Code} {G : fm_G} (C0 : fm_C p s m args meth c G (.code y_Mo_exclude b_Mo_exclude 2 none) "AllocationProfilerModel" b_Mo_exclude 2 none) {M' : fm_M} (x0 : Nat) (x1 : Int32) (s0 : Nat) (s1 : Int32) {M : fm_M} {H : Heap} {locs : List Loc} (hP : kP G M H) (hS : kS G s H locs) {ls : Array Slot} (hl : lv_has ls 2 [(0, .ref (G.2.2 + x0)), (1, .int x1)]) (h : j_Mo_exclude_28 x0 x1 s0 s1 M = some M') : W p l e rm_Mo_exclude s m args below meth c H locs 0 0 (MQ below (fm_Q G 212 shF none M') args s 0 0 (fm_A G.2.2)) (F0 m 28 ls [.int s1, .ref (G.2.2 + s0)]) := by
  have hx := C0.1
  have hb := C0.2.1
  unfold j_Mo_exclude_28 at h
  obtain ⟨M101, e102, h⟩ := ob h
  refine k_pi C0 F_Mo_122p ik_10_0 hP hS e102 d_Mo_exclude_28 (fun H locs hP hS => ?_)
  refine lv_aload_n hx hb d_Mo_exclude_31 rfl (lv_at hl 0 rfl) ?_
  obtain ⟨x103, e104, h⟩ := ob h
  refine k_gi C0 F_Mo_122 ik_10_0 hP e104 d_Mo_exclude_32 ?_
  refine lv_if_ne (tgt := 45) hx hb d_Mo_exclude_35 (by decide) (fun c105 => ?_) (fun c105 => ?_)
  · rw [if_neg c105] at h
    cases h
    exact r_vret C0 hP hS d_Mo_exclude_45
  · rw [if_pos c105] at h
    refine lv_aload_n hx hb d_Mo_exclude_38 rfl (lv_at hl 0 rfl) ?_
    obtain ⟨q106, e107, h⟩ := ob h
    refine k_gr C0 F_Mo_29 hP e107 d_Mo_exclude_39 ?_
    refine lv_iload_n hx hb d_Mo_exclude_42 rfl (lv_at hl 1 rfl) ?_
    refine lv_iconst (v := 1) hx hb d_Mo_exclude_43 ic_1 ?_
    obtain ⟨M108, e109, h⟩ := ob h
    refine k_sz C0 hP hS (by decide) e109 d_Mo_exclude_44 (fun H locs hP hS => ?_)
    cases h
    exact r_vret C0 hP hS d_Mo_exclude_45
set_option maxHeartbeats 4000000 in
set_option maxRecDepth 100000 in
theorem c_Mo_exclude (l : Launch) (G : fm_G) (x0 : Nat) (x1 : Int32) {M M' : fm_M} (h : f_Mo_exclude x0 x1 M = some M') : kMet l y_Mo_exclude b_Mo_exclude 2 none rm_Mo_exclude G M [.ref (G.2.2 + x0), .int x1] none M' := by
  refine r_met (by decide) rfl (Nat.le_of_ble_eq_true rfl) (fun p e s m args below meth c C0 hP ls hl => ?_)
  have hx := C0.1
  have hb := C0.2.1
  have hl : lv_has ls 2 [(0, .ref (G.2.2 + x0)), (1, .int x1)] := hl
  have hS : va_S (fm_A G.2.2) s.heap s.heap [] := va_S.rf
  unfold f_Mo_exclude at h
  refine lv_aload_n hx hb d_Mo_exclude_0 rfl (lv_at hl 0 rfl) ?_
  refine lv_iload_n hx hb d_Mo_exclude_1 rfl (lv_at hl 1 rfl) ?_
  refine lv_aload_n hx hb d_Mo_exclude_2 rfl (lv_at hl 0 rfl) ?_
  obtain ⟨x110, e111, h⟩ := ob h
  refine k_gi C0 F_Mo_154 ik_10_9 hP e111 d_Mo_exclude_3 ?_
  obtain ⟨x114, M112, e113, h⟩ := ob2 h
  refine k_cS C0 L_Mo_128 (As := [.int x1, .int x110]) (c_Mo_out l G x1 x110 e113) ⟨rfl, rfl⟩ ⟨Nat.le_of_ble_eq_true rfl, Nat.le_of_ble_eq_true rfl⟩ hP hS rfl hl.1 rfl (Nat.le_of_ble_eq_true rfl) d_Mo_exclude_6 ⟨Nat.zero_le _, Nat.zero_le _⟩ (fun H locs hP hS => ?_)
  refine lv_if_eq (tgt := 16) hx hb d_Mo_exclude_9 (by decide) (fun c115 => ?_) (fun c115 => ?_)
  · rw [if_pos c115] at h
    refine lv_aload_n hx hb d_Mo_exclude_16 rfl (lv_at hl 0 rfl) ?_
    obtain ⟨x116, e117, h⟩ := ob h
    refine k_gi C0 F_Mo_132 ik_10_11 hP e117 d_Mo_exclude_17 ?_
    refine lv_if_eq (tgt := 27) hx hb d_Mo_exclude_20 (by decide) (fun c118 => ?_) (fun c118 => ?_)
    · rw [if_pos c118] at h
      refine lv_iconst (v := 0) hx hb d_Mo_exclude_27 ic_0 ?_
      exact w_Mo_exclude_28 C0 x0 x1 x0 0 hP hS (lv_sub hl [0, 1] rfl) h
    · rw [if_neg c118] at h
      refine lv_iconst (v := 2) hx hb d_Mo_exclude_23 ic_2 ?_
      refine lv_goto (tgt := 28) hx hb d_Mo_exclude_24 (by decide) ?_
      exact w_Mo_exclude_28 C0 x0 x1 x0 2 hP hS (lv_sub hl [0, 1] rfl) h
  · rw [if_neg c115] at h
    refine lv_iconst (v := 1) hx hb d_Mo_exclude_12 ic_1 ?_
    refine lv_goto (tgt := 28) hx hb d_Mo_exclude_13 (by decide) ?_
    exact w_Mo_exclude_28 C0 x0 x1 x0 1 hP hS (lv_sub hl [0, 1] rfl) h
/-! AllocationProfilerModel.moved -/
def rm_Mo_moved : Room := { frames := 1, cells := 0, slots := 0, locals := 20 }
theorem d_Mo_moved_0 : decode b_Mo_moved 0 = .ok (.iload_n 2, 1) := by decide +kernel
theorem d_Mo_moved_1 : decode b_Mo_moved 1 = .ok (.istore_n 3, 1) := by decide +kernel
theorem d_Mo_moved_2 : decode b_Mo_moved 2 = .ok (.iconst 0, 1) := by decide +kernel
theorem d_Mo_moved_3 : decode b_Mo_moved 3 = .ok (.istore 4, 2) := by decide +kernel
theorem d_Mo_moved_5 : decode b_Mo_moved 5 = .ok (.iload 4, 2) := by decide +kernel
theorem d_Mo_moved_7 : decode b_Mo_moved 7 = .ok (.iload_n 2, 1) := by decide +kernel
theorem d_Mo_moved_8 : decode b_Mo_moved 8 = .ok (.if_icmp .ge 35, 3) := by decide +kernel
theorem d_Mo_moved_11 : decode b_Mo_moved 11 = .ok (.aload_n 0, 1) := by decide +kernel
theorem d_Mo_moved_12 : decode b_Mo_moved 12 = .ok (.getfield 36, 3) := by decide +kernel
theorem d_Mo_moved_15 : decode b_Mo_moved 15 = .ok (.bipush 24, 2) := by decide +kernel
theorem d_Mo_moved_17 : decode b_Mo_moved 17 = .ok (.iload_n 1, 1) := by decide +kernel
theorem d_Mo_moved_18 : decode b_Mo_moved 18 = .ok (.imul, 1) := by decide +kernel
theorem d_Mo_moved_19 : decode b_Mo_moved 19 = .ok (.iload 4, 2) := by decide +kernel
theorem d_Mo_moved_21 : decode b_Mo_moved 21 = .ok (.iadd, 1) := by decide +kernel
theorem d_Mo_moved_22 : decode b_Mo_moved 22 = .ok (.iaload, 1) := by decide +kernel
theorem d_Mo_moved_23 : decode b_Mo_moved 23 = .ok (.invokestatic 186, 3) := by decide +kernel
theorem d_Mo_moved_26 : decode b_Mo_moved 26 = .ok (.ifCond .eq 9, 3) := by decide +kernel
theorem d_Mo_moved_29 : decode b_Mo_moved 29 = .ok (.iload_n 3, 1) := by decide +kernel
theorem d_Mo_moved_30 : decode b_Mo_moved 30 = .ok (.iconst 1, 1) := by decide +kernel
theorem d_Mo_moved_31 : decode b_Mo_moved 31 = .ok (.iadd, 1) := by decide +kernel
theorem d_Mo_moved_32 : decode b_Mo_moved 32 = .ok (.goto 4, 3) := by decide +kernel
theorem d_Mo_moved_35 : decode b_Mo_moved 35 = .ok (.iload_n 3, 1) := by decide +kernel
theorem d_Mo_moved_36 : decode b_Mo_moved 36 = .ok (.istore_n 3, 1) := by decide +kernel
theorem d_Mo_moved_37 : decode b_Mo_moved 37 = .ok (.iinc 4 1, 3) := by decide +kernel
theorem d_Mo_moved_40 : decode b_Mo_moved 40 = .ok (.goto (-35), 3) := by decide +kernel
theorem d_Mo_moved_43 : decode b_Mo_moved 43 = .ok (.iload_n 3, 1) := by decide +kernel
theorem d_Mo_moved_44 : decode b_Mo_moved 44 = .ok (.ireturn, 1) := by decide +kernel
def j_Mo_moved_36 (k5 : Nat → Int32 → Int32 → Int32 → Int32 → fm_M → Option (Int32 × fm_M)) (x0 : Nat) (x1 : Int32) (x2 : Int32) (x4 : Int32) (s0 : Int32) (M : fm_M) : Option (Int32 × fm_M) :=
  k5 x0 x1 x2 s0 (x4 + 1) M
def h_Mo_moved_5 : Nat → Nat → Int32 → Int32 → Int32 → Int32 → fm_M → Option (Int32 × fm_M)
  | 0, _, _, _, _, _, _ => none
  | n + 1, x0, x1, x2, x3, x4, M =>
    if x2 ≤ x4 then
      some (x3, M)
    else
      (gr x0 10 14).bind fun q102 =>
      (ai q102 ((24 * x1) + x4) M).bind fun x104 =>
      bd (f_Mo_makes x104 M) fun x108 M106 =>
      if x108 = 0 then
        j_Mo_moved_36 (h_Mo_moved_5 n) x0 x1 x2 x4 x3 M106
      else
        j_Mo_moved_36 (h_Mo_moved_5 n) x0 x1 x2 x4 (x3 + 1) M106
def f_Mo_moved (x0 : Nat) (x1 : Int32) (x2 : Int32) (M : fm_M) : Option (Int32 × fm_M) :=
  h_Mo_moved_5 100000 x0 x1 x2 x2 0 M
set_option maxHeartbeats 4000000 in
set_option maxRecDepth 100000 in
theorem w_Mo_moved_36 {p : Program} {l : Launch} {e : Env} {s : State} {m : MethodId} {args : Array Value} {below : List Frame} {meth : Method} {c : Code} {G : fm_G} (C0 : fm_C p s m args meth c G (.code y_Mo_moved b_Mo_moved 5 (some .int)) "AllocationProfilerModel" b_Mo_moved 5 (some .int)) {v : Int32} {M' : fm_M} (k5 : Nat → Int32 → Int32 → Int32 → Int32 → fm_M → Option (Int32 × fm_M)) (hk5 : ∀ (x0 : Nat) (x1 : Int32) (x2 : Int32) (x3 : Int32) (x4 : Int32) {M : fm_M} {H : Heap} {locs : List Loc}, kP G M H → kS G s H locs → ∀ {ls : Array Slot}, lv_has ls 5 [(0, .ref (G.2.2 + x0)), (1, .int x1), (2, .int x2), (3, .int x3), (4, .int x4)] → k5 x0 x1 x2 x3 x4 M = some (v, M') → W p l e rm_Mo_moved s m args below meth c H locs 0 0 (MQ below (fm_Q G 212 shF (some (.int v)) M') args s 0 0 (fm_A G.2.2)) (F0 m 5 ls [])) (x0 : Nat) (x1 : Int32) (x2 : Int32) (x4 : Int32) (s0 : Int32) {M : fm_M} {H : Heap} {locs : List Loc} (hP : kP G M H) (hS : kS G s H locs) {ls : Array Slot} (hl : lv_has ls 5 [(0, .ref (G.2.2 + x0)), (1, .int x1), (2, .int x2), (4, .int x4)]) (h : j_Mo_moved_36 k5 x0 x1 x2 x4 s0 M = some (v, M')) : W p l e rm_Mo_moved s m args below meth c H locs 0 0 (MQ below (fm_Q G 212 shF (some (.int v)) M') args s 0 0 (fm_A G.2.2)) (F0 m 36 ls [.int s0]) := by
  have hx := C0.1
  have hb := C0.2.1
  unfold j_Mo_moved_36 at h
  refine lv_istore_n (lv' := [(3, .int s0), (0, .ref (G.2.2 + x0)), (1, .int x1), (2, .int x2), (4, .int x4)]) hx hb d_Mo_moved_36 rfl hl (by decide) rfl (fun ls hl => ?_)
  refine lv_iinc (v := (x4 + 1)) (lv' := [(4, .int (x4 + 1)), (3, .int s0), (0, .ref (G.2.2 + x0)), (1, .int x1), (2, .int x2)]) hx hb d_Mo_moved_37 hl (k := 4) rfl (congrArg (fun z => x4 + z) ic_1) (by decide) rfl (fun ls hl => ?_)
  refine lv_goto (tgt := 5) hx hb d_Mo_moved_40 (by decide) ?_
  exact hk5 x0 x1 x2 s0 (x4 + 1) hP hS (lv_sub hl [2, 3, 4, 1, 0] rfl) h
set_option maxHeartbeats 4000000 in
set_option maxRecDepth 100000 in
theorem w_Mo_moved_5 {p : Program} {l : Launch} {e : Env} {s : State} {m : MethodId} {args : Array Value} {below : List Frame} {meth : Method} {c : Code} {G : fm_G} (C0 : fm_C p s m args meth c G (.code y_Mo_moved b_Mo_moved 5 (some .int)) "AllocationProfilerModel" b_Mo_moved 5 (some .int)) {v : Int32} {M' : fm_M} : ∀ (n : Nat) (x0 : Nat) (x1 : Int32) (x2 : Int32) (x3 : Int32) (x4 : Int32) {M : fm_M} {H : Heap} {locs : List Loc}, kP G M H → kS G s H locs → ∀ {ls : Array Slot}, lv_has ls 5 [(0, .ref (G.2.2 + x0)), (1, .int x1), (2, .int x2), (3, .int x3), (4, .int x4)] → h_Mo_moved_5 n x0 x1 x2 x3 x4 M = some (v, M') → W p l e rm_Mo_moved s m args below meth c H locs 0 0 (MQ below (fm_Q G 212 shF (some (.int v)) M') args s 0 0 (fm_A G.2.2)) (F0 m 5 ls []) := by
  have hx := C0.1
  have hb := C0.2.1
  intro n
  induction n with
  | zero =>
    intro x0 x1 x2 x3 x4 M H locs hP hS ls hl h
    exact nomatch h
  | succ n ih =>
    intro x0 x1 x2 x3 x4 M H locs hP hS ls hl h
    have h : (if x2 ≤ x4 then
        some (x3, M)
      else
        (gr x0 10 14).bind fun q102 =>
        (ai q102 ((24 * x1) + x4) M).bind fun x104 =>
        bd (f_Mo_makes x104 M) fun x108 M106 =>
        if x108 = 0 then
          j_Mo_moved_36 (h_Mo_moved_5 n) x0 x1 x2 x4 x3 M106
        else
          j_Mo_moved_36 (h_Mo_moved_5 n) x0 x1 x2 x4 (x3 + 1) M106) = some (v, M') := h
    refine lv_iload hx hb d_Mo_moved_5 (lv_at hl 4 rfl) ?_
    refine lv_iload_n hx hb d_Mo_moved_7 rfl (lv_at hl 2 rfl) ?_
    refine lv_icmp_ge (tgt := 43) hx hb d_Mo_moved_8 (by decide) (fun c101 => ?_) (fun c101 => ?_)
    · rw [if_pos c101] at h
      refine lv_iload_n hx hb d_Mo_moved_43 rfl (lv_at hl 3 rfl) ?_
      cases h
      exact r_iret C0 hP hS d_Mo_moved_44
    · rw [if_neg c101] at h
      refine lv_aload_n hx hb d_Mo_moved_11 rfl (lv_at hl 0 rfl) ?_
      obtain ⟨q102, e103, h⟩ := ob h
      refine k_gr C0 F_Mo_36 hP e103 d_Mo_moved_12 ?_
      refine lv_bipush (v := 24) hx hb d_Mo_moved_15 bp_24 ?_
      refine lv_iload_n hx hb d_Mo_moved_17 rfl (lv_at hl 1 rfl) ?_
      refine lv_imul hx hb d_Mo_moved_18 ?_
      refine lv_iload hx hb d_Mo_moved_19 (lv_at hl 4 rfl) ?_
      refine lv_iadd hx hb d_Mo_moved_21 ?_
      obtain ⟨x104, e105, h⟩ := ob h
      refine k_ai C0 hP e105 d_Mo_moved_22 ?_
      obtain ⟨x108, M106, e107, h⟩ := ob2 h
      refine k_cS C0 L_Mo_186 (As := [.int x104]) (c_Mo_makes l G x104 e107) ⟨rfl, rfl⟩ ⟨Nat.le_of_ble_eq_true rfl, Nat.le_of_ble_eq_true rfl⟩ hP hS rfl hl.1 rfl (Nat.le_of_ble_eq_true rfl) d_Mo_moved_23 ⟨Nat.zero_le _, Nat.zero_le _⟩ (fun H locs hP hS => ?_)
      refine lv_if_eq (tgt := 35) hx hb d_Mo_moved_26 (by decide) (fun c109 => ?_) (fun c109 => ?_)
      · rw [if_pos c109] at h
        refine lv_iload_n hx hb d_Mo_moved_35 rfl (lv_at hl 3 rfl) ?_
        exact w_Mo_moved_36 C0 (h_Mo_moved_5 n) ih x0 x1 x2 x4 x3 hP hS (lv_sub hl [0, 1, 2, 4] rfl) h
      · rw [if_neg c109] at h
        refine lv_iload_n hx hb d_Mo_moved_29 rfl (lv_at hl 3 rfl) ?_
        refine lv_iconst (v := 1) hx hb d_Mo_moved_30 ic_1 ?_
        refine lv_iadd hx hb d_Mo_moved_31 ?_
        refine lv_goto (tgt := 36) hx hb d_Mo_moved_32 (by decide) ?_
        exact w_Mo_moved_36 C0 (h_Mo_moved_5 n) ih x0 x1 x2 x4 (x3 + 1) hP hS (lv_sub hl [0, 1, 2, 4] rfl) h
set_option maxHeartbeats 4000000 in
set_option maxRecDepth 100000 in
theorem c_Mo_moved (l : Launch) (G : fm_G) (x0 : Nat) (x1 : Int32) (x2 : Int32) {v : Int32} {M M' : fm_M} (h : f_Mo_moved x0 x1 x2 M = some (v, M')) : kMet l y_Mo_moved b_Mo_moved 5 (some .int) rm_Mo_moved G M [.ref (G.2.2 + x0), .int x1, .int x2] (some (.int v)) M' := by
  refine r_met (by decide) rfl (Nat.le_of_ble_eq_true rfl) (fun p e s m args below meth c C0 hP ls hl => ?_)
  have hx := C0.1
  have hb := C0.2.1
  have hl : lv_has ls 5 [(0, .ref (G.2.2 + x0)), (1, .int x1), (2, .int x2)] := hl
  have hS : va_S (fm_A G.2.2) s.heap s.heap [] := va_S.rf
  unfold f_Mo_moved at h
  refine lv_iload_n hx hb d_Mo_moved_0 rfl (lv_at hl 2 rfl) ?_
  refine lv_istore_n (lv' := [(3, .int x2), (0, .ref (G.2.2 + x0)), (1, .int x1), (2, .int x2)]) hx hb d_Mo_moved_1 rfl hl (by decide) rfl (fun ls hl => ?_)
  refine lv_iconst (v := 0) hx hb d_Mo_moved_2 ic_0 ?_
  refine lv_istore (lv' := [(4, .int 0), (3, .int x2), (0, .ref (G.2.2 + x0)), (1, .int x1), (2, .int x2)]) hx hb d_Mo_moved_3 hl (by decide) rfl (fun ls hl => ?_)
  exact w_Mo_moved_5 C0 100000 x0 x1 x2 x2 0 hP hS (lv_sub hl [2, 3, 4, 1, 0] rfl) h
/-! AllocationProfilerModel.weaveOne -/
def rm_Mo_weaveOne : Room := { frames := 2, cells := 0, slots := 0, locals := 44 }
theorem d_Mo_weaveOne_0 : decode b_Mo_weaveOne 0 = .ok (.aload_n 0, 1) := by decide +kernel
theorem d_Mo_weaveOne_1 : decode b_Mo_weaveOne 1 = .ok (.iload_n 1, 1) := by decide +kernel
theorem d_Mo_weaveOne_2 : decode b_Mo_weaveOne 2 = .ok (.aload_n 0, 1) := by decide +kernel
theorem d_Mo_weaveOne_3 : decode b_Mo_weaveOne 3 = .ok (.getfield 33, 3) := by decide +kernel
theorem d_Mo_weaveOne_6 : decode b_Mo_weaveOne 6 = .ok (.iload_n 1, 1) := by decide +kernel
theorem d_Mo_weaveOne_7 : decode b_Mo_weaveOne 7 = .ok (.iaload, 1) := by decide +kernel
theorem d_Mo_weaveOne_8 : decode b_Mo_weaveOne 8 = .ok (.invokevirtual 189, 3) := by decide +kernel
theorem d_Mo_weaveOne_11 : decode b_Mo_weaveOne 11 = .ok (.istore_n 2, 1) := by decide +kernel
theorem d_Mo_weaveOne_12 : decode b_Mo_weaveOne 12 = .ok (.aload_n 0, 1) := by decide +kernel
theorem d_Mo_weaveOne_13 : decode b_Mo_weaveOne 13 = .ok (.getfield 29, 3) := by decide +kernel
theorem d_Mo_weaveOne_16 : decode b_Mo_weaveOne 16 = .ok (.iload_n 1, 1) := by decide +kernel
theorem d_Mo_weaveOne_17 : decode b_Mo_weaveOne 17 = .ok (.baload, 1) := by decide +kernel
theorem d_Mo_weaveOne_18 : decode b_Mo_weaveOne 18 = .ok (.ifCond .ne 9, 3) := by decide +kernel
theorem d_Mo_weaveOne_21 : decode b_Mo_weaveOne 21 = .ok (.iload_n 2, 1) := by decide +kernel
theorem d_Mo_weaveOne_22 : decode b_Mo_weaveOne 22 = .ok (.bipush 28, 2) := by decide +kernel
theorem d_Mo_weaveOne_24 : decode b_Mo_weaveOne 24 = .ok (.if_icmp .le 4, 3) := by decide +kernel
theorem d_Mo_weaveOne_27 : decode b_Mo_weaveOne 27 = .ok (.return_, 1) := by decide +kernel
theorem d_Mo_weaveOne_28 : decode b_Mo_weaveOne 28 = .ok (.iconst 0, 1) := by decide +kernel
theorem d_Mo_weaveOne_29 : decode b_Mo_weaveOne 29 = .ok (.istore_n 3, 1) := by decide +kernel
theorem d_Mo_weaveOne_30 : decode b_Mo_weaveOne 30 = .ok (.iload_n 3, 1) := by decide +kernel
theorem d_Mo_weaveOne_31 : decode b_Mo_weaveOne 31 = .ok (.aload_n 0, 1) := by decide +kernel
theorem d_Mo_weaveOne_32 : decode b_Mo_weaveOne 32 = .ok (.getfield 33, 3) := by decide +kernel
theorem d_Mo_weaveOne_35 : decode b_Mo_weaveOne 35 = .ok (.iload_n 1, 1) := by decide +kernel
theorem d_Mo_weaveOne_36 : decode b_Mo_weaveOne 36 = .ok (.iaload, 1) := by decide +kernel
theorem d_Mo_weaveOne_37 : decode b_Mo_weaveOne 37 = .ok (.if_icmp .ge 141, 3) := by decide +kernel
theorem d_Mo_weaveOne_40 : decode b_Mo_weaveOne 40 = .ok (.aload_n 0, 1) := by decide +kernel
theorem d_Mo_weaveOne_41 : decode b_Mo_weaveOne 41 = .ok (.getfield 36, 3) := by decide +kernel
theorem d_Mo_weaveOne_44 : decode b_Mo_weaveOne 44 = .ok (.bipush 24, 2) := by decide +kernel
theorem d_Mo_weaveOne_46 : decode b_Mo_weaveOne 46 = .ok (.iload_n 1, 1) := by decide +kernel
theorem d_Mo_weaveOne_47 : decode b_Mo_weaveOne 47 = .ok (.imul, 1) := by decide +kernel
theorem d_Mo_weaveOne_48 : decode b_Mo_weaveOne 48 = .ok (.iload_n 3, 1) := by decide +kernel
theorem d_Mo_weaveOne_49 : decode b_Mo_weaveOne 49 = .ok (.iadd, 1) := by decide +kernel
theorem d_Mo_weaveOne_50 : decode b_Mo_weaveOne 50 = .ok (.iaload, 1) := by decide +kernel
theorem d_Mo_weaveOne_51 : decode b_Mo_weaveOne 51 = .ok (.istore 4, 2) := by decide +kernel
theorem d_Mo_weaveOne_53 : decode b_Mo_weaveOne 53 = .ok (.aload_n 0, 1) := by decide +kernel
theorem d_Mo_weaveOne_54 : decode b_Mo_weaveOne 54 = .ok (.getfield 39, 3) := by decide +kernel
theorem d_Mo_weaveOne_57 : decode b_Mo_weaveOne 57 = .ok (.bipush 24, 2) := by decide +kernel
theorem d_Mo_weaveOne_59 : decode b_Mo_weaveOne 59 = .ok (.iload_n 1, 1) := by decide +kernel
theorem d_Mo_weaveOne_60 : decode b_Mo_weaveOne 60 = .ok (.imul, 1) := by decide +kernel
theorem d_Mo_weaveOne_61 : decode b_Mo_weaveOne 61 = .ok (.iload_n 3, 1) := by decide +kernel
theorem d_Mo_weaveOne_62 : decode b_Mo_weaveOne 62 = .ok (.iadd, 1) := by decide +kernel
theorem d_Mo_weaveOne_63 : decode b_Mo_weaveOne 63 = .ok (.iaload, 1) := by decide +kernel
theorem d_Mo_weaveOne_64 : decode b_Mo_weaveOne 64 = .ok (.istore 5, 2) := by decide +kernel
theorem d_Mo_weaveOne_66 : decode b_Mo_weaveOne 66 = .ok (.bipush 28, 2) := by decide +kernel
theorem d_Mo_weaveOne_68 : decode b_Mo_weaveOne 68 = .ok (.iload_n 1, 1) := by decide +kernel
theorem d_Mo_weaveOne_69 : decode b_Mo_weaveOne 69 = .ok (.imul, 1) := by decide +kernel
theorem d_Mo_weaveOne_70 : decode b_Mo_weaveOne 70 = .ok (.aload_n 0, 1) := by decide +kernel
theorem d_Mo_weaveOne_71 : decode b_Mo_weaveOne 71 = .ok (.iload_n 1, 1) := by decide +kernel
theorem d_Mo_weaveOne_72 : decode b_Mo_weaveOne 72 = .ok (.iload_n 3, 1) := by decide +kernel
theorem d_Mo_weaveOne_73 : decode b_Mo_weaveOne 73 = .ok (.invokevirtual 189, 3) := by decide +kernel
theorem d_Mo_weaveOne_76 : decode b_Mo_weaveOne 76 = .ok (.iadd, 1) := by decide +kernel
theorem d_Mo_weaveOne_77 : decode b_Mo_weaveOne 77 = .ok (.istore 6, 2) := by decide +kernel
theorem d_Mo_weaveOne_79 : decode b_Mo_weaveOne 79 = .ok (.aload_n 0, 1) := by decide +kernel
theorem d_Mo_weaveOne_80 : decode b_Mo_weaveOne 80 = .ok (.getfield 51, 3) := by decide +kernel
theorem d_Mo_weaveOne_83 : decode b_Mo_weaveOne 83 = .ok (.iload 6, 2) := by decide +kernel
theorem d_Mo_weaveOne_85 : decode b_Mo_weaveOne 85 = .ok (.iload 4, 2) := by decide +kernel
theorem d_Mo_weaveOne_87 : decode b_Mo_weaveOne 87 = .ok (.iastore, 1) := by decide +kernel
theorem d_Mo_weaveOne_88 : decode b_Mo_weaveOne 88 = .ok (.aload_n 0, 1) := by decide +kernel
theorem d_Mo_weaveOne_89 : decode b_Mo_weaveOne 89 = .ok (.getfield 54, 3) := by decide +kernel
theorem d_Mo_weaveOne_92 : decode b_Mo_weaveOne 92 = .ok (.iload 6, 2) := by decide +kernel
theorem d_Mo_weaveOne_94 : decode b_Mo_weaveOne 94 = .ok (.iload 4, 2) := by decide +kernel
theorem d_Mo_weaveOne_96 : decode b_Mo_weaveOne 96 = .ok (.invokestatic 150, 3) := by decide +kernel
theorem d_Mo_weaveOne_99 : decode b_Mo_weaveOne 99 = .ok (.ifCond .eq 13, 3) := by decide +kernel
theorem d_Mo_weaveOne_102 : decode b_Mo_weaveOne 102 = .ok (.aload_n 0, 1) := by decide +kernel
theorem d_Mo_weaveOne_103 : decode b_Mo_weaveOne 103 = .ok (.iload_n 1, 1) := by decide +kernel
theorem d_Mo_weaveOne_104 : decode b_Mo_weaveOne 104 = .ok (.iload 5, 2) := by decide +kernel
theorem d_Mo_weaveOne_106 : decode b_Mo_weaveOne 106 = .ok (.invokevirtual 189, 3) := by decide +kernel
theorem d_Mo_weaveOne_109 : decode b_Mo_weaveOne 109 = .ok (.goto 5, 3) := by decide +kernel
theorem d_Mo_weaveOne_112 : decode b_Mo_weaveOne 112 = .ok (.iload 5, 2) := by decide +kernel
theorem d_Mo_weaveOne_114 : decode b_Mo_weaveOne 114 = .ok (.iastore, 1) := by decide +kernel
theorem d_Mo_weaveOne_115 : decode b_Mo_weaveOne 115 = .ok (.iload 4, 2) := by decide +kernel
theorem d_Mo_weaveOne_117 : decode b_Mo_weaveOne 117 = .ok (.invokestatic 186, 3) := by decide +kernel
theorem d_Mo_weaveOne_120 : decode b_Mo_weaveOne 120 = .ok (.ifCond .eq 52, 3) := by decide +kernel
theorem d_Mo_weaveOne_123 : decode b_Mo_weaveOne 123 = .ok (.aload_n 0, 1) := by decide +kernel
theorem d_Mo_weaveOne_124 : decode b_Mo_weaveOne 124 = .ok (.getfield 51, 3) := by decide +kernel
theorem d_Mo_weaveOne_127 : decode b_Mo_weaveOne 127 = .ok (.iload 6, 2) := by decide +kernel
theorem d_Mo_weaveOne_129 : decode b_Mo_weaveOne 129 = .ok (.iconst 1, 1) := by decide +kernel
theorem d_Mo_weaveOne_130 : decode b_Mo_weaveOne 130 = .ok (.iadd, 1) := by decide +kernel
theorem d_Mo_weaveOne_131 : decode b_Mo_weaveOne 131 = .ok (.bipush 16, 2) := by decide +kernel
theorem d_Mo_weaveOne_133 : decode b_Mo_weaveOne 133 = .ok (.iastore, 1) := by decide +kernel
theorem d_Mo_weaveOne_134 : decode b_Mo_weaveOne 134 = .ok (.aload_n 0, 1) := by decide +kernel
theorem d_Mo_weaveOne_135 : decode b_Mo_weaveOne 135 = .ok (.getfield 54, 3) := by decide +kernel
theorem d_Mo_weaveOne_138 : decode b_Mo_weaveOne 138 = .ok (.iload 6, 2) := by decide +kernel
theorem d_Mo_weaveOne_140 : decode b_Mo_weaveOne 140 = .ok (.iconst 1, 1) := by decide +kernel
theorem d_Mo_weaveOne_141 : decode b_Mo_weaveOne 141 = .ok (.iadd, 1) := by decide +kernel
theorem d_Mo_weaveOne_142 : decode b_Mo_weaveOne 142 = .ok (.aload_n 0, 1) := by decide +kernel
theorem d_Mo_weaveOne_143 : decode b_Mo_weaveOne 143 = .ok (.getfield 192, 3) := by decide +kernel
theorem d_Mo_weaveOne_146 : decode b_Mo_weaveOne 146 = .ok (.iastore, 1) := by decide +kernel
theorem d_Mo_weaveOne_147 : decode b_Mo_weaveOne 147 = .ok (.aload_n 0, 1) := by decide +kernel
theorem d_Mo_weaveOne_148 : decode b_Mo_weaveOne 148 = .ok (.getfield 60, 3) := by decide +kernel
theorem d_Mo_weaveOne_151 : decode b_Mo_weaveOne 151 = .ok (.bipush 24, 2) := by decide +kernel
theorem d_Mo_weaveOne_153 : decode b_Mo_weaveOne 153 = .ok (.iload_n 1, 1) := by decide +kernel
theorem d_Mo_weaveOne_154 : decode b_Mo_weaveOne 154 = .ok (.imul, 1) := by decide +kernel
theorem d_Mo_weaveOne_155 : decode b_Mo_weaveOne 155 = .ok (.iload_n 3, 1) := by decide +kernel
theorem d_Mo_weaveOne_156 : decode b_Mo_weaveOne 156 = .ok (.iadd, 1) := by decide +kernel
theorem d_Mo_weaveOne_157 : decode b_Mo_weaveOne 157 = .ok (.aload_n 0, 1) := by decide +kernel
theorem d_Mo_weaveOne_158 : decode b_Mo_weaveOne 158 = .ok (.getfield 192, 3) := by decide +kernel
theorem d_Mo_weaveOne_161 : decode b_Mo_weaveOne 161 = .ok (.iastore, 1) := by decide +kernel
theorem d_Mo_weaveOne_162 : decode b_Mo_weaveOne 162 = .ok (.aload_n 0, 1) := by decide +kernel
theorem d_Mo_weaveOne_163 : decode b_Mo_weaveOne 163 = .ok (.dup, 1) := by decide +kernel
theorem d_Mo_weaveOne_164 : decode b_Mo_weaveOne 164 = .ok (.getfield 192, 3) := by decide +kernel
theorem d_Mo_weaveOne_167 : decode b_Mo_weaveOne 167 = .ok (.iconst 1, 1) := by decide +kernel
theorem d_Mo_weaveOne_168 : decode b_Mo_weaveOne 168 = .ok (.iadd, 1) := by decide +kernel
theorem d_Mo_weaveOne_169 : decode b_Mo_weaveOne 169 = .ok (.putfield 192, 3) := by decide +kernel
theorem d_Mo_weaveOne_172 : decode b_Mo_weaveOne 172 = .ok (.iinc 3 1, 3) := by decide +kernel
theorem d_Mo_weaveOne_175 : decode b_Mo_weaveOne 175 = .ok (.goto (-145), 3) := by decide +kernel
theorem d_Mo_weaveOne_178 : decode b_Mo_weaveOne 178 = .ok (.aload_n 0, 1) := by decide +kernel
theorem d_Mo_weaveOne_179 : decode b_Mo_weaveOne 179 = .ok (.getfield 48, 3) := by decide +kernel
theorem d_Mo_weaveOne_182 : decode b_Mo_weaveOne 182 = .ok (.iload_n 1, 1) := by decide +kernel
theorem d_Mo_weaveOne_183 : decode b_Mo_weaveOne 183 = .ok (.iload_n 2, 1) := by decide +kernel
theorem d_Mo_weaveOne_184 : decode b_Mo_weaveOne 184 = .ok (.iastore, 1) := by decide +kernel
theorem d_Mo_weaveOne_185 : decode b_Mo_weaveOne 185 = .ok (.iconst 0, 1) := by decide +kernel
theorem d_Mo_weaveOne_186 : decode b_Mo_weaveOne 186 = .ok (.istore_n 3, 1) := by decide +kernel
theorem d_Mo_weaveOne_187 : decode b_Mo_weaveOne 187 = .ok (.iload_n 3, 1) := by decide +kernel
theorem d_Mo_weaveOne_188 : decode b_Mo_weaveOne 188 = .ok (.iconst 3, 1) := by decide +kernel
theorem d_Mo_weaveOne_189 : decode b_Mo_weaveOne 189 = .ok (.aload_n 0, 1) := by decide +kernel
theorem d_Mo_weaveOne_190 : decode b_Mo_weaveOne 190 = .ok (.getfield 42, 3) := by decide +kernel
theorem d_Mo_weaveOne_193 : decode b_Mo_weaveOne 193 = .ok (.iload_n 1, 1) := by decide +kernel
theorem d_Mo_weaveOne_194 : decode b_Mo_weaveOne 194 = .ok (.iaload, 1) := by decide +kernel
theorem d_Mo_weaveOne_195 : decode b_Mo_weaveOne 195 = .ok (.imul, 1) := by decide +kernel
theorem d_Mo_weaveOne_196 : decode b_Mo_weaveOne 196 = .ok (.if_icmp .ge 36, 3) := by decide +kernel
theorem d_Mo_weaveOne_199 : decode b_Mo_weaveOne 199 = .ok (.aload_n 0, 1) := by decide +kernel
theorem d_Mo_weaveOne_200 : decode b_Mo_weaveOne 200 = .ok (.getfield 57, 3) := by decide +kernel
theorem d_Mo_weaveOne_203 : decode b_Mo_weaveOne 203 = .ok (.bipush 6, 2) := by decide +kernel
theorem d_Mo_weaveOne_205 : decode b_Mo_weaveOne 205 = .ok (.iload_n 1, 1) := by decide +kernel
theorem d_Mo_weaveOne_206 : decode b_Mo_weaveOne 206 = .ok (.imul, 1) := by decide +kernel
theorem d_Mo_weaveOne_207 : decode b_Mo_weaveOne 207 = .ok (.iload_n 3, 1) := by decide +kernel
theorem d_Mo_weaveOne_208 : decode b_Mo_weaveOne 208 = .ok (.iadd, 1) := by decide +kernel
theorem d_Mo_weaveOne_209 : decode b_Mo_weaveOne 209 = .ok (.aload_n 0, 1) := by decide +kernel
theorem d_Mo_weaveOne_210 : decode b_Mo_weaveOne 210 = .ok (.iload_n 1, 1) := by decide +kernel
theorem d_Mo_weaveOne_211 : decode b_Mo_weaveOne 211 = .ok (.aload_n 0, 1) := by decide +kernel
theorem d_Mo_weaveOne_212 : decode b_Mo_weaveOne 212 = .ok (.getfield 45, 3) := by decide +kernel
theorem d_Mo_weaveOne_215 : decode b_Mo_weaveOne 215 = .ok (.bipush 6, 2) := by decide +kernel
theorem d_Mo_weaveOne_217 : decode b_Mo_weaveOne 217 = .ok (.iload_n 1, 1) := by decide +kernel
theorem d_Mo_weaveOne_218 : decode b_Mo_weaveOne 218 = .ok (.imul, 1) := by decide +kernel
theorem d_Mo_weaveOne_219 : decode b_Mo_weaveOne 219 = .ok (.iload_n 3, 1) := by decide +kernel
theorem d_Mo_weaveOne_220 : decode b_Mo_weaveOne 220 = .ok (.iadd, 1) := by decide +kernel
theorem d_Mo_weaveOne_221 : decode b_Mo_weaveOne 221 = .ok (.iaload, 1) := by decide +kernel
theorem d_Mo_weaveOne_222 : decode b_Mo_weaveOne 222 = .ok (.invokevirtual 189, 3) := by decide +kernel
theorem d_Mo_weaveOne_225 : decode b_Mo_weaveOne 225 = .ok (.iastore, 1) := by decide +kernel
theorem d_Mo_weaveOne_226 : decode b_Mo_weaveOne 226 = .ok (.iinc 3 1, 3) := by decide +kernel
theorem d_Mo_weaveOne_229 : decode b_Mo_weaveOne 229 = .ok (.goto (-42), 3) := by decide +kernel
theorem d_Mo_weaveOne_232 : decode b_Mo_weaveOne 232 = .ok (.return_, 1) := by decide +kernel
def j_Mo_weaveOne_172 (k30 : Nat → Int32 → Int32 → Int32 → fm_M → Option fm_M) (x0 : Nat) (x1 : Int32) (x2 : Int32) (x3 : Int32) (M : fm_M) : Option fm_M :=
  k30 x0 x1 x2 (x3 + 1) M
def j_Mo_weaveOne_114 (k30 : Nat → Int32 → Int32 → Int32 → fm_M → Option fm_M) (x0 : Nat) (x1 : Int32) (x2 : Int32) (x3 : Int32) (x4 : Int32) (x6 : Int32) (s0 : Nat) (s1 : Int32) (s2 : Int32) (M : fm_M) : Option fm_M :=
  (si s0 s1 s2 M).bind fun M101 =>
  bd (f_Mo_makes x4 M101) fun x105 M103 =>
  if x105 = 0 then
    j_Mo_weaveOne_172 k30 x0 x1 x2 x3 M103
  else
    (gr x0 10 19).bind fun q107 =>
    (si q107 (x6 + 1) 16 M103).bind fun M109 =>
    (gr x0 10 20).bind fun q111 =>
    (gi x0 10 23 M109).bind fun x113 =>
    (si q111 (x6 + 1) x113 M109).bind fun M115 =>
    (gr x0 10 22).bind fun q117 =>
    (gi x0 10 23 M115).bind fun x119 =>
    (si q117 ((24 * x1) + x3) x119 M115).bind fun M121 =>
    (gi x0 10 23 M121).bind fun x123 =>
    (pi x0 10 23 (x123 + 1) M121).bind fun M125 =>
    j_Mo_weaveOne_172 k30 x0 x1 x2 x3 M125
def h_Mo_weaveOne_187 : Nat → Nat → Int32 → Int32 → fm_M → Option fm_M
  | 0, _, _, _, _ => none
  | n + 1, x0, x1, x3, M =>
    (gr x0 10 16).bind fun q127 =>
    (ai q127 x1 M).bind fun x129 =>
    if (3 * x129) ≤ x3 then
      some M
    else
      (gr x0 10 21).bind fun q132 =>
      (gr x0 10 17).bind fun q134 =>
      (ai q134 ((6 * x1) + x3) M).bind fun x136 =>
      (ck x0 10).bind fun _ =>
      bd (f_Mo_moved x0 x1 x136 M) fun x141 M139 =>
      (si q132 ((6 * x1) + x3) x141 M139).bind fun M142 =>
      h_Mo_weaveOne_187 n x0 x1 (x3 + 1) M142
def h_Mo_weaveOne_30 : Nat → Nat → Int32 → Int32 → Int32 → fm_M → Option fm_M
  | 0, _, _, _, _, _ => none
  | n + 1, x0, x1, x2, x3, M =>
    (gr x0 10 13).bind fun q144 =>
    (ai q144 x1 M).bind fun x146 =>
    if x146 ≤ x3 then
      (gr x0 10 18).bind fun q149 =>
      (si q149 x1 x2 M).bind fun M151 =>
      h_Mo_weaveOne_187 100000 x0 x1 0 M151
    else
      (gr x0 10 14).bind fun q153 =>
      (ai q153 ((24 * x1) + x3) M).bind fun x155 =>
      (gr x0 10 15).bind fun q157 =>
      (ai q157 ((24 * x1) + x3) M).bind fun x159 =>
      (ck x0 10).bind fun _ =>
      bd (f_Mo_moved x0 x1 x3 M) fun x164 M162 =>
      (gr x0 10 19).bind fun q165 =>
      (si q165 ((28 * x1) + x164) x155 M162).bind fun M167 =>
      (gr x0 10 20).bind fun q169 =>
      bd (f_Mo_jumps x155 M167) fun x173 M171 =>
      if x173 = 0 then
        j_Mo_weaveOne_114 (h_Mo_weaveOne_30 n) x0 x1 x2 x3 x155 ((28 * x1) + x164) q169 ((28 * x1) + x164) x159 M171
      else
        (ck x0 10).bind fun _ =>
        bd (f_Mo_moved x0 x1 x159 M171) fun x178 M176 =>
        j_Mo_weaveOne_114 (h_Mo_weaveOne_30 n) x0 x1 x2 x3 x155 ((28 * x1) + x164) q169 ((28 * x1) + x164) x178 M176
def f_Mo_weaveOne (x0 : Nat) (x1 : Int32) (M : fm_M) : Option fm_M :=
  (gr x0 10 13).bind fun q179 =>
  (ai q179 x1 M).bind fun x181 =>
  (ck x0 10).bind fun _ =>
  bd (f_Mo_moved x0 x1 x181 M) fun x186 M184 =>
  (gr x0 10 12).bind fun q187 =>
  (az q187 x1 M184).bind fun x189 =>
  if x189 = 0 then
    if x186 ≤ 28 then
      h_Mo_weaveOne_30 100000 x0 x1 x186 0 M184
    else
      some M184
  else
    some M184
set_option maxHeartbeats 4000000 in
set_option maxRecDepth 100000 in
theorem w_Mo_weaveOne_172 {p : Program} {l : Launch} {e : Env} {s : State} {m : MethodId} {args : Array Value} {below : List Frame} {meth : Method} {c : Code} {G : fm_G} (C0 : fm_C p s m args meth c G (.code y_Mo_weaveOne b_Mo_weaveOne 7 none) "AllocationProfilerModel" b_Mo_weaveOne 7 none) {M' : fm_M} (k30 : Nat → Int32 → Int32 → Int32 → fm_M → Option fm_M) (hk30 : ∀ (x0 : Nat) (x1 : Int32) (x2 : Int32) (x3 : Int32) {M : fm_M} {H : Heap} {locs : List Loc}, kP G M H → kS G s H locs → ∀ {ls : Array Slot}, lv_has ls 7 [(0, .ref (G.2.2 + x0)), (1, .int x1), (2, .int x2), (3, .int x3)] → k30 x0 x1 x2 x3 M = some M' → W p l e rm_Mo_weaveOne s m args below meth c H locs 0 0 (MQ below (fm_Q G 212 shF none M') args s 0 0 (fm_A G.2.2)) (F0 m 30 ls [])) (x0 : Nat) (x1 : Int32) (x2 : Int32) (x3 : Int32) {M : fm_M} {H : Heap} {locs : List Loc} (hP : kP G M H) (hS : kS G s H locs) {ls : Array Slot} (hl : lv_has ls 7 [(0, .ref (G.2.2 + x0)), (1, .int x1), (2, .int x2), (3, .int x3)]) (h : j_Mo_weaveOne_172 k30 x0 x1 x2 x3 M = some M') : W p l e rm_Mo_weaveOne s m args below meth c H locs 0 0 (MQ below (fm_Q G 212 shF none M') args s 0 0 (fm_A G.2.2)) (F0 m 172 ls []) := by
  have hx := C0.1
  have hb := C0.2.1
  unfold j_Mo_weaveOne_172 at h
  refine lv_iinc (v := (x3 + 1)) (lv' := [(3, .int (x3 + 1)), (0, .ref (G.2.2 + x0)), (1, .int x1), (2, .int x2)]) hx hb d_Mo_weaveOne_172 hl (k := 3) rfl (congrArg (fun z => x3 + z) ic_1) (by decide) rfl (fun ls hl => ?_)
  refine lv_goto (tgt := 30) hx hb d_Mo_weaveOne_175 (by decide) ?_
  exact hk30 x0 x1 x2 (x3 + 1) hP hS (lv_sub hl [1, 2, 3, 0] rfl) h
set_option maxHeartbeats 4000000 in
set_option maxRecDepth 100000 in
theorem w_Mo_weaveOne_114 {p : Program} {l : Launch} {e : Env} {s : State} {m : MethodId} {args : Array Value} {below : List Frame} {meth : Method} {c : Code} {G : fm_G} (C0 : fm_C p s m args meth c G (.code y_Mo_weaveOne b_Mo_weaveOne 7 none) "AllocationProfilerModel" b_Mo_weaveOne 7 none) {M' : fm_M} (k30 : Nat → Int32 → Int32 → Int32 → fm_M → Option fm_M) (hk30 : ∀ (x0 : Nat) (x1 : Int32) (x2 : Int32) (x3 : Int32) {M : fm_M} {H : Heap} {locs : List Loc}, kP G M H → kS G s H locs → ∀ {ls : Array Slot}, lv_has ls 7 [(0, .ref (G.2.2 + x0)), (1, .int x1), (2, .int x2), (3, .int x3)] → k30 x0 x1 x2 x3 M = some M' → W p l e rm_Mo_weaveOne s m args below meth c H locs 0 0 (MQ below (fm_Q G 212 shF none M') args s 0 0 (fm_A G.2.2)) (F0 m 30 ls [])) (x0 : Nat) (x1 : Int32) (x2 : Int32) (x3 : Int32) (x4 : Int32) (x6 : Int32) (s0 : Nat) (s1 : Int32) (s2 : Int32) {M : fm_M} {H : Heap} {locs : List Loc} (hP : kP G M H) (hS : kS G s H locs) {ls : Array Slot} (hl : lv_has ls 7 [(0, .ref (G.2.2 + x0)), (1, .int x1), (2, .int x2), (3, .int x3), (4, .int x4), (6, .int x6)]) (h : j_Mo_weaveOne_114 k30 x0 x1 x2 x3 x4 x6 s0 s1 s2 M = some M') : W p l e rm_Mo_weaveOne s m args below meth c H locs 0 0 (MQ below (fm_Q G 212 shF none M') args s 0 0 (fm_A G.2.2)) (F0 m 114 ls [.int s2, .int s1, .ref (G.2.2 + s0)]) := by
  have hx := C0.1
  have hb := C0.2.1
  unfold j_Mo_weaveOne_114 at h
  obtain ⟨M101, e102, h⟩ := ob h
  refine k_si C0 hP hS e102 d_Mo_weaveOne_114 (fun H locs hP hS => ?_)
  refine lv_iload hx hb d_Mo_weaveOne_115 (lv_at hl 4 rfl) ?_
  obtain ⟨x105, M103, e104, h⟩ := ob2 h
  refine k_cS C0 L_Mo_186 (As := [.int x4]) (c_Mo_makes l G x4 e104) ⟨rfl, rfl⟩ ⟨Nat.le_of_ble_eq_true rfl, Nat.le_of_ble_eq_true rfl⟩ hP hS rfl hl.1 rfl (Nat.le_of_ble_eq_true rfl) d_Mo_weaveOne_117 ⟨Nat.zero_le _, Nat.zero_le _⟩ (fun H locs hP hS => ?_)
  refine lv_if_eq (tgt := 172) hx hb d_Mo_weaveOne_120 (by decide) (fun c106 => ?_) (fun c106 => ?_)
  · rw [if_pos c106] at h
    exact w_Mo_weaveOne_172 C0 k30 hk30 x0 x1 x2 x3 hP hS (lv_sub hl [0, 1, 2, 3] rfl) h
  · rw [if_neg c106] at h
    refine lv_aload_n hx hb d_Mo_weaveOne_123 rfl (lv_at hl 0 rfl) ?_
    obtain ⟨q107, e108, h⟩ := ob h
    refine k_gr C0 F_Mo_51 hP e108 d_Mo_weaveOne_124 ?_
    refine lv_iload hx hb d_Mo_weaveOne_127 (lv_at hl 5 rfl) ?_
    refine lv_iconst (v := 1) hx hb d_Mo_weaveOne_129 ic_1 ?_
    refine lv_iadd hx hb d_Mo_weaveOne_130 ?_
    refine lv_bipush (v := 16) hx hb d_Mo_weaveOne_131 bp_16 ?_
    obtain ⟨M109, e110, h⟩ := ob h
    refine k_si C0 hP hS e110 d_Mo_weaveOne_133 (fun H locs hP hS => ?_)
    refine lv_aload_n hx hb d_Mo_weaveOne_134 rfl (lv_at hl 0 rfl) ?_
    obtain ⟨q111, e112, h⟩ := ob h
    refine k_gr C0 F_Mo_54 hP e112 d_Mo_weaveOne_135 ?_
    refine lv_iload hx hb d_Mo_weaveOne_138 (lv_at hl 5 rfl) ?_
    refine lv_iconst (v := 1) hx hb d_Mo_weaveOne_140 ic_1 ?_
    refine lv_iadd hx hb d_Mo_weaveOne_141 ?_
    refine lv_aload_n hx hb d_Mo_weaveOne_142 rfl (lv_at hl 0 rfl) ?_
    obtain ⟨x113, e114, h⟩ := ob h
    refine k_gi C0 F_Mo_192 ik_10_23 hP e114 d_Mo_weaveOne_143 ?_
    obtain ⟨M115, e116, h⟩ := ob h
    refine k_si C0 hP hS e116 d_Mo_weaveOne_146 (fun H locs hP hS => ?_)
    refine lv_aload_n hx hb d_Mo_weaveOne_147 rfl (lv_at hl 0 rfl) ?_
    obtain ⟨q117, e118, h⟩ := ob h
    refine k_gr C0 F_Mo_60 hP e118 d_Mo_weaveOne_148 ?_
    refine lv_bipush (v := 24) hx hb d_Mo_weaveOne_151 bp_24 ?_
    refine lv_iload_n hx hb d_Mo_weaveOne_153 rfl (lv_at hl 1 rfl) ?_
    refine lv_imul hx hb d_Mo_weaveOne_154 ?_
    refine lv_iload_n hx hb d_Mo_weaveOne_155 rfl (lv_at hl 3 rfl) ?_
    refine lv_iadd hx hb d_Mo_weaveOne_156 ?_
    refine lv_aload_n hx hb d_Mo_weaveOne_157 rfl (lv_at hl 0 rfl) ?_
    obtain ⟨x119, e120, h⟩ := ob h
    refine k_gi C0 F_Mo_192 ik_10_23 hP e120 d_Mo_weaveOne_158 ?_
    obtain ⟨M121, e122, h⟩ := ob h
    refine k_si C0 hP hS e122 d_Mo_weaveOne_161 (fun H locs hP hS => ?_)
    refine lv_aload_n hx hb d_Mo_weaveOne_162 rfl (lv_at hl 0 rfl) ?_
    refine lv_dup hx hb d_Mo_weaveOne_163 rfl ?_
    obtain ⟨x123, e124, h⟩ := ob h
    refine k_gi C0 F_Mo_192 ik_10_23 hP e124 d_Mo_weaveOne_164 ?_
    refine lv_iconst (v := 1) hx hb d_Mo_weaveOne_167 ic_1 ?_
    refine lv_iadd hx hb d_Mo_weaveOne_168 ?_
    obtain ⟨M125, e126, h⟩ := ob h
    refine k_pi C0 F_Mo_192p ik_10_23 hP hS e126 d_Mo_weaveOne_169 (fun H locs hP hS => ?_)
    exact w_Mo_weaveOne_172 C0 k30 hk30 x0 x1 x2 x3 hP hS (lv_sub hl [0, 1, 2, 3] rfl) h
set_option maxHeartbeats 4000000 in
set_option maxRecDepth 100000 in
theorem w_Mo_weaveOne_187 {p : Program} {l : Launch} {e : Env} {s : State} {m : MethodId} {args : Array Value} {below : List Frame} {meth : Method} {c : Code} {G : fm_G} (C0 : fm_C p s m args meth c G (.code y_Mo_weaveOne b_Mo_weaveOne 7 none) "AllocationProfilerModel" b_Mo_weaveOne 7 none) {M' : fm_M} : ∀ (n : Nat) (x0 : Nat) (x1 : Int32) (x3 : Int32) {M : fm_M} {H : Heap} {locs : List Loc}, kP G M H → kS G s H locs → ∀ {ls : Array Slot}, lv_has ls 7 [(0, .ref (G.2.2 + x0)), (1, .int x1), (3, .int x3)] → h_Mo_weaveOne_187 n x0 x1 x3 M = some M' → W p l e rm_Mo_weaveOne s m args below meth c H locs 0 0 (MQ below (fm_Q G 212 shF none M') args s 0 0 (fm_A G.2.2)) (F0 m 187 ls []) := by
  have hx := C0.1
  have hb := C0.2.1
  intro n
  induction n with
  | zero =>
    intro x0 x1 x3 M H locs hP hS ls hl h
    exact nomatch h
  | succ n ih =>
    intro x0 x1 x3 M H locs hP hS ls hl h
    have h : ((gr x0 10 16).bind fun q127 =>
      (ai q127 x1 M).bind fun x129 =>
      if (3 * x129) ≤ x3 then
        some M
      else
        (gr x0 10 21).bind fun q132 =>
        (gr x0 10 17).bind fun q134 =>
        (ai q134 ((6 * x1) + x3) M).bind fun x136 =>
        (ck x0 10).bind fun _ =>
        bd (f_Mo_moved x0 x1 x136 M) fun x141 M139 =>
        (si q132 ((6 * x1) + x3) x141 M139).bind fun M142 =>
        h_Mo_weaveOne_187 n x0 x1 (x3 + 1) M142) = some M' := h
    refine lv_iload_n hx hb d_Mo_weaveOne_187 rfl (lv_at hl 2 rfl) ?_
    refine lv_iconst (v := 3) hx hb d_Mo_weaveOne_188 ic_3 ?_
    refine lv_aload_n hx hb d_Mo_weaveOne_189 rfl (lv_at hl 0 rfl) ?_
    obtain ⟨q127, e128, h⟩ := ob h
    refine k_gr C0 F_Mo_42 hP e128 d_Mo_weaveOne_190 ?_
    refine lv_iload_n hx hb d_Mo_weaveOne_193 rfl (lv_at hl 1 rfl) ?_
    obtain ⟨x129, e130, h⟩ := ob h
    refine k_ai C0 hP e130 d_Mo_weaveOne_194 ?_
    refine lv_imul hx hb d_Mo_weaveOne_195 ?_
    refine lv_icmp_ge (tgt := 232) hx hb d_Mo_weaveOne_196 (by decide) (fun c131 => ?_) (fun c131 => ?_)
    · rw [if_pos c131] at h
      cases h
      exact r_vret C0 hP hS d_Mo_weaveOne_232
    · rw [if_neg c131] at h
      refine lv_aload_n hx hb d_Mo_weaveOne_199 rfl (lv_at hl 0 rfl) ?_
      obtain ⟨q132, e133, h⟩ := ob h
      refine k_gr C0 F_Mo_57 hP e133 d_Mo_weaveOne_200 ?_
      refine lv_bipush (v := 6) hx hb d_Mo_weaveOne_203 bp_6 ?_
      refine lv_iload_n hx hb d_Mo_weaveOne_205 rfl (lv_at hl 1 rfl) ?_
      refine lv_imul hx hb d_Mo_weaveOne_206 ?_
      refine lv_iload_n hx hb d_Mo_weaveOne_207 rfl (lv_at hl 2 rfl) ?_
      refine lv_iadd hx hb d_Mo_weaveOne_208 ?_
      refine lv_aload_n hx hb d_Mo_weaveOne_209 rfl (lv_at hl 0 rfl) ?_
      refine lv_iload_n hx hb d_Mo_weaveOne_210 rfl (lv_at hl 1 rfl) ?_
      refine lv_aload_n hx hb d_Mo_weaveOne_211 rfl (lv_at hl 0 rfl) ?_
      obtain ⟨q134, e135, h⟩ := ob h
      refine k_gr C0 F_Mo_45 hP e135 d_Mo_weaveOne_212 ?_
      refine lv_bipush (v := 6) hx hb d_Mo_weaveOne_215 bp_6 ?_
      refine lv_iload_n hx hb d_Mo_weaveOne_217 rfl (lv_at hl 1 rfl) ?_
      refine lv_imul hx hb d_Mo_weaveOne_218 ?_
      refine lv_iload_n hx hb d_Mo_weaveOne_219 rfl (lv_at hl 2 rfl) ?_
      refine lv_iadd hx hb d_Mo_weaveOne_220 ?_
      obtain ⟨x136, e137, h⟩ := ob h
      refine k_ai C0 hP e137 d_Mo_weaveOne_221 ?_
      obtain ⟨_, e138, h⟩ := ob h
      obtain ⟨x141, M139, e140, h⟩ := ob2 h
      refine k_cV C0 L_Mo_189 (As := [.int x1, .int x136]) (c_Mo_moved l G x0 x1 x136 e140) ⟨rfl, rfl⟩ ⟨Nat.le_of_ble_eq_true rfl, Nat.le_of_ble_eq_true rfl⟩ hP hS (ck_of e138) ly_Mo rfl hl.1 rfl (Nat.le_of_ble_eq_true rfl) d_Mo_weaveOne_222 ⟨Nat.zero_le _, Nat.zero_le _⟩ (fun H locs hP hS => ?_)
      obtain ⟨M142, e143, h⟩ := ob h
      refine k_si C0 hP hS e143 d_Mo_weaveOne_225 (fun H locs hP hS => ?_)
      refine lv_iinc (v := (x3 + 1)) (lv' := [(3, .int (x3 + 1)), (0, .ref (G.2.2 + x0)), (1, .int x1)]) hx hb d_Mo_weaveOne_226 hl (k := 2) rfl (congrArg (fun z => x3 + z) ic_1) (by decide) rfl (fun ls hl => ?_)
      refine lv_goto (tgt := 187) hx hb d_Mo_weaveOne_229 (by decide) ?_
      exact ih x0 x1 (x3 + 1) hP hS (lv_sub hl [1, 2, 0] rfl) h
set_option maxHeartbeats 4000000 in
set_option maxRecDepth 100000 in
theorem w_Mo_weaveOne_30 {p : Program} {l : Launch} {e : Env} {s : State} {m : MethodId} {args : Array Value} {below : List Frame} {meth : Method} {c : Code} {G : fm_G} (C0 : fm_C p s m args meth c G (.code y_Mo_weaveOne b_Mo_weaveOne 7 none) "AllocationProfilerModel" b_Mo_weaveOne 7 none) {M' : fm_M} : ∀ (n : Nat) (x0 : Nat) (x1 : Int32) (x2 : Int32) (x3 : Int32) {M : fm_M} {H : Heap} {locs : List Loc}, kP G M H → kS G s H locs → ∀ {ls : Array Slot}, lv_has ls 7 [(0, .ref (G.2.2 + x0)), (1, .int x1), (2, .int x2), (3, .int x3)] → h_Mo_weaveOne_30 n x0 x1 x2 x3 M = some M' → W p l e rm_Mo_weaveOne s m args below meth c H locs 0 0 (MQ below (fm_Q G 212 shF none M') args s 0 0 (fm_A G.2.2)) (F0 m 30 ls []) := by
  have hx := C0.1
  have hb := C0.2.1
  intro n
  induction n with
  | zero =>
    intro x0 x1 x2 x3 M H locs hP hS ls hl h
    exact nomatch h
  | succ n ih =>
    intro x0 x1 x2 x3 M H locs hP hS ls hl h
    have h : ((gr x0 10 13).bind fun q144 =>
      (ai q144 x1 M).bind fun x146 =>
      if x146 ≤ x3 then
        (gr x0 10 18).bind fun q149 =>
        (si q149 x1 x2 M).bind fun M151 =>
        h_Mo_weaveOne_187 100000 x0 x1 0 M151
      else
        (gr x0 10 14).bind fun q153 =>
        (ai q153 ((24 * x1) + x3) M).bind fun x155 =>
        (gr x0 10 15).bind fun q157 =>
        (ai q157 ((24 * x1) + x3) M).bind fun x159 =>
        (ck x0 10).bind fun _ =>
        bd (f_Mo_moved x0 x1 x3 M) fun x164 M162 =>
        (gr x0 10 19).bind fun q165 =>
        (si q165 ((28 * x1) + x164) x155 M162).bind fun M167 =>
        (gr x0 10 20).bind fun q169 =>
        bd (f_Mo_jumps x155 M167) fun x173 M171 =>
        if x173 = 0 then
          j_Mo_weaveOne_114 (h_Mo_weaveOne_30 n) x0 x1 x2 x3 x155 ((28 * x1) + x164) q169 ((28 * x1) + x164) x159 M171
        else
          (ck x0 10).bind fun _ =>
          bd (f_Mo_moved x0 x1 x159 M171) fun x178 M176 =>
          j_Mo_weaveOne_114 (h_Mo_weaveOne_30 n) x0 x1 x2 x3 x155 ((28 * x1) + x164) q169 ((28 * x1) + x164) x178 M176) = some M' := h
    refine lv_iload_n hx hb d_Mo_weaveOne_30 rfl (lv_at hl 3 rfl) ?_
    refine lv_aload_n hx hb d_Mo_weaveOne_31 rfl (lv_at hl 0 rfl) ?_
    obtain ⟨q144, e145, h⟩ := ob h
    refine k_gr C0 F_Mo_33 hP e145 d_Mo_weaveOne_32 ?_
    refine lv_iload_n hx hb d_Mo_weaveOne_35 rfl (lv_at hl 1 rfl) ?_
    obtain ⟨x146, e147, h⟩ := ob h
    refine k_ai C0 hP e147 d_Mo_weaveOne_36 ?_
    refine lv_icmp_ge (tgt := 178) hx hb d_Mo_weaveOne_37 (by decide) (fun c148 => ?_) (fun c148 => ?_)
    · rw [if_pos c148] at h
      refine lv_aload_n hx hb d_Mo_weaveOne_178 rfl (lv_at hl 0 rfl) ?_
      obtain ⟨q149, e150, h⟩ := ob h
      refine k_gr C0 F_Mo_48 hP e150 d_Mo_weaveOne_179 ?_
      refine lv_iload_n hx hb d_Mo_weaveOne_182 rfl (lv_at hl 1 rfl) ?_
      refine lv_iload_n hx hb d_Mo_weaveOne_183 rfl (lv_at hl 2 rfl) ?_
      obtain ⟨M151, e152, h⟩ := ob h
      refine k_si C0 hP hS e152 d_Mo_weaveOne_184 (fun H locs hP hS => ?_)
      refine lv_iconst (v := 0) hx hb d_Mo_weaveOne_185 ic_0 ?_
      refine lv_istore_n (lv' := [(3, .int 0), (0, .ref (G.2.2 + x0)), (1, .int x1), (2, .int x2)]) hx hb d_Mo_weaveOne_186 rfl hl (by decide) rfl (fun ls hl => ?_)
      exact w_Mo_weaveOne_187 C0 100000 x0 x1 0 hP hS (lv_sub hl [1, 2, 0] rfl) h
    · rw [if_neg c148] at h
      refine lv_aload_n hx hb d_Mo_weaveOne_40 rfl (lv_at hl 0 rfl) ?_
      obtain ⟨q153, e154, h⟩ := ob h
      refine k_gr C0 F_Mo_36 hP e154 d_Mo_weaveOne_41 ?_
      refine lv_bipush (v := 24) hx hb d_Mo_weaveOne_44 bp_24 ?_
      refine lv_iload_n hx hb d_Mo_weaveOne_46 rfl (lv_at hl 1 rfl) ?_
      refine lv_imul hx hb d_Mo_weaveOne_47 ?_
      refine lv_iload_n hx hb d_Mo_weaveOne_48 rfl (lv_at hl 3 rfl) ?_
      refine lv_iadd hx hb d_Mo_weaveOne_49 ?_
      obtain ⟨x155, e156, h⟩ := ob h
      refine k_ai C0 hP e156 d_Mo_weaveOne_50 ?_
      refine lv_istore (lv' := [(4, .int x155), (0, .ref (G.2.2 + x0)), (1, .int x1), (2, .int x2), (3, .int x3)]) hx hb d_Mo_weaveOne_51 hl (by decide) rfl (fun ls hl => ?_)
      refine lv_aload_n hx hb d_Mo_weaveOne_53 rfl (lv_at hl 1 rfl) ?_
      obtain ⟨q157, e158, h⟩ := ob h
      refine k_gr C0 F_Mo_39 hP e158 d_Mo_weaveOne_54 ?_
      refine lv_bipush (v := 24) hx hb d_Mo_weaveOne_57 bp_24 ?_
      refine lv_iload_n hx hb d_Mo_weaveOne_59 rfl (lv_at hl 2 rfl) ?_
      refine lv_imul hx hb d_Mo_weaveOne_60 ?_
      refine lv_iload_n hx hb d_Mo_weaveOne_61 rfl (lv_at hl 4 rfl) ?_
      refine lv_iadd hx hb d_Mo_weaveOne_62 ?_
      obtain ⟨x159, e160, h⟩ := ob h
      refine k_ai C0 hP e160 d_Mo_weaveOne_63 ?_
      refine lv_istore (lv' := [(5, .int x159), (4, .int x155), (0, .ref (G.2.2 + x0)), (1, .int x1), (2, .int x2), (3, .int x3)]) hx hb d_Mo_weaveOne_64 hl (by decide) rfl (fun ls hl => ?_)
      refine lv_bipush (v := 28) hx hb d_Mo_weaveOne_66 bp_28 ?_
      refine lv_iload_n hx hb d_Mo_weaveOne_68 rfl (lv_at hl 3 rfl) ?_
      refine lv_imul hx hb d_Mo_weaveOne_69 ?_
      refine lv_aload_n hx hb d_Mo_weaveOne_70 rfl (lv_at hl 2 rfl) ?_
      refine lv_iload_n hx hb d_Mo_weaveOne_71 rfl (lv_at hl 3 rfl) ?_
      refine lv_iload_n hx hb d_Mo_weaveOne_72 rfl (lv_at hl 5 rfl) ?_
      obtain ⟨_, e161, h⟩ := ob h
      obtain ⟨x164, M162, e163, h⟩ := ob2 h
      refine k_cV C0 L_Mo_189 (As := [.int x1, .int x3]) (c_Mo_moved l G x0 x1 x3 e163) ⟨rfl, rfl⟩ ⟨Nat.le_of_ble_eq_true rfl, Nat.le_of_ble_eq_true rfl⟩ hP hS (ck_of e161) ly_Mo rfl hl.1 rfl (Nat.le_of_ble_eq_true rfl) d_Mo_weaveOne_73 ⟨Nat.zero_le _, Nat.zero_le _⟩ (fun H locs hP hS => ?_)
      refine lv_iadd hx hb d_Mo_weaveOne_76 ?_
      refine lv_istore (lv' := [(6, .int ((28 * x1) + x164)), (5, .int x159), (4, .int x155), (0, .ref (G.2.2 + x0)), (1, .int x1), (2, .int x2), (3, .int x3)]) hx hb d_Mo_weaveOne_77 hl (by decide) rfl (fun ls hl => ?_)
      refine lv_aload_n hx hb d_Mo_weaveOne_79 rfl (lv_at hl 3 rfl) ?_
      obtain ⟨q165, e166, h⟩ := ob h
      refine k_gr C0 F_Mo_51 hP e166 d_Mo_weaveOne_80 ?_
      refine lv_iload hx hb d_Mo_weaveOne_83 (lv_at hl 0 rfl) ?_
      refine lv_iload hx hb d_Mo_weaveOne_85 (lv_at hl 2 rfl) ?_
      obtain ⟨M167, e168, h⟩ := ob h
      refine k_si C0 hP hS e168 d_Mo_weaveOne_87 (fun H locs hP hS => ?_)
      refine lv_aload_n hx hb d_Mo_weaveOne_88 rfl (lv_at hl 3 rfl) ?_
      obtain ⟨q169, e170, h⟩ := ob h
      refine k_gr C0 F_Mo_54 hP e170 d_Mo_weaveOne_89 ?_
      refine lv_iload hx hb d_Mo_weaveOne_92 (lv_at hl 0 rfl) ?_
      refine lv_iload hx hb d_Mo_weaveOne_94 (lv_at hl 2 rfl) ?_
      obtain ⟨x173, M171, e172, h⟩ := ob2 h
      refine k_cS C0 L_Mo_150 (As := [.int x155]) (c_Mo_jumps l G x155 e172) ⟨rfl, rfl⟩ ⟨Nat.le_of_ble_eq_true rfl, Nat.le_of_ble_eq_true rfl⟩ hP hS rfl hl.1 rfl (Nat.le_of_ble_eq_true rfl) d_Mo_weaveOne_96 ⟨Nat.zero_le _, Nat.zero_le _⟩ (fun H locs hP hS => ?_)
      refine lv_if_eq (tgt := 112) hx hb d_Mo_weaveOne_99 (by decide) (fun c174 => ?_) (fun c174 => ?_)
      · rw [if_pos c174] at h
        refine lv_iload hx hb d_Mo_weaveOne_112 (lv_at hl 1 rfl) ?_
        exact w_Mo_weaveOne_114 C0 (h_Mo_weaveOne_30 n) ih x0 x1 x2 x3 x155 ((28 * x1) + x164) q169 ((28 * x1) + x164) x159 hP hS (lv_sub hl [3, 4, 5, 6, 2, 0] rfl) h
      · rw [if_neg c174] at h
        refine lv_aload_n hx hb d_Mo_weaveOne_102 rfl (lv_at hl 3 rfl) ?_
        refine lv_iload_n hx hb d_Mo_weaveOne_103 rfl (lv_at hl 4 rfl) ?_
        refine lv_iload hx hb d_Mo_weaveOne_104 (lv_at hl 1 rfl) ?_
        obtain ⟨_, e175, h⟩ := ob h
        obtain ⟨x178, M176, e177, h⟩ := ob2 h
        refine k_cV C0 L_Mo_189 (As := [.int x1, .int x159]) (c_Mo_moved l G x0 x1 x159 e177) ⟨rfl, rfl⟩ ⟨Nat.le_of_ble_eq_true rfl, Nat.le_of_ble_eq_true rfl⟩ hP hS (ck_of e175) ly_Mo rfl hl.1 rfl (Nat.le_of_ble_eq_true rfl) d_Mo_weaveOne_106 ⟨Nat.zero_le _, Nat.zero_le _⟩ (fun H locs hP hS => ?_)
        refine lv_goto (tgt := 114) hx hb d_Mo_weaveOne_109 (by decide) ?_
        exact w_Mo_weaveOne_114 C0 (h_Mo_weaveOne_30 n) ih x0 x1 x2 x3 x155 ((28 * x1) + x164) q169 ((28 * x1) + x164) x178 hP hS (lv_sub hl [3, 4, 5, 6, 2, 0] rfl) h
set_option maxHeartbeats 4000000 in
set_option maxRecDepth 100000 in
theorem c_Mo_weaveOne (l : Launch) (G : fm_G) (x0 : Nat) (x1 : Int32) {M M' : fm_M} (h : f_Mo_weaveOne x0 x1 M = some M') : kMet l y_Mo_weaveOne b_Mo_weaveOne 7 none rm_Mo_weaveOne G M [.ref (G.2.2 + x0), .int x1] none M' := by
  refine r_met (by decide) rfl (Nat.le_of_ble_eq_true rfl) (fun p e s m args below meth c C0 hP ls hl => ?_)
  have hx := C0.1
  have hb := C0.2.1
  have hl : lv_has ls 7 [(0, .ref (G.2.2 + x0)), (1, .int x1)] := hl
  have hS : va_S (fm_A G.2.2) s.heap s.heap [] := va_S.rf
  unfold f_Mo_weaveOne at h
  refine lv_aload_n hx hb d_Mo_weaveOne_0 rfl (lv_at hl 0 rfl) ?_
  refine lv_iload_n hx hb d_Mo_weaveOne_1 rfl (lv_at hl 1 rfl) ?_
  refine lv_aload_n hx hb d_Mo_weaveOne_2 rfl (lv_at hl 0 rfl) ?_
  obtain ⟨q179, e180, h⟩ := ob h
  refine k_gr C0 F_Mo_33 hP e180 d_Mo_weaveOne_3 ?_
  refine lv_iload_n hx hb d_Mo_weaveOne_6 rfl (lv_at hl 1 rfl) ?_
  obtain ⟨x181, e182, h⟩ := ob h
  refine k_ai C0 hP e182 d_Mo_weaveOne_7 ?_
  obtain ⟨_, e183, h⟩ := ob h
  obtain ⟨x186, M184, e185, h⟩ := ob2 h
  refine k_cV C0 L_Mo_189 (As := [.int x1, .int x181]) (c_Mo_moved l G x0 x1 x181 e185) ⟨rfl, rfl⟩ ⟨Nat.le_of_ble_eq_true rfl, Nat.le_of_ble_eq_true rfl⟩ hP hS (ck_of e183) ly_Mo rfl hl.1 rfl (Nat.le_of_ble_eq_true rfl) d_Mo_weaveOne_8 ⟨Nat.zero_le _, Nat.zero_le _⟩ (fun H locs hP hS => ?_)
  refine lv_istore_n (lv' := [(2, .int x186), (0, .ref (G.2.2 + x0)), (1, .int x1)]) hx hb d_Mo_weaveOne_11 rfl hl (by decide) rfl (fun ls hl => ?_)
  refine lv_aload_n hx hb d_Mo_weaveOne_12 rfl (lv_at hl 1 rfl) ?_
  obtain ⟨q187, e188, h⟩ := ob h
  refine k_gr C0 F_Mo_29 hP e188 d_Mo_weaveOne_13 ?_
  refine lv_iload_n hx hb d_Mo_weaveOne_16 rfl (lv_at hl 2 rfl) ?_
  obtain ⟨x189, e190, h⟩ := ob h
  refine k_az C0 hP e190 d_Mo_weaveOne_17 ?_
  refine lv_if_ne (tgt := 27) hx hb d_Mo_weaveOne_18 (by decide) (fun c191 => ?_) (fun c191 => ?_)
  · rw [if_neg c191] at h
    cases h
    exact r_vret C0 hP hS d_Mo_weaveOne_27
  · rw [if_pos c191] at h
    refine lv_iload_n hx hb d_Mo_weaveOne_21 rfl (lv_at hl 0 rfl) ?_
    refine lv_bipush (v := 28) hx hb d_Mo_weaveOne_22 bp_28 ?_
    refine lv_icmp_le (tgt := 28) hx hb d_Mo_weaveOne_24 (by decide) (fun c192 => ?_) (fun c192 => ?_)
    · rw [if_pos c192] at h
      refine lv_iconst (v := 0) hx hb d_Mo_weaveOne_28 ic_0 ?_
      refine lv_istore_n (lv' := [(3, .int 0), (2, .int x186), (0, .ref (G.2.2 + x0)), (1, .int x1)]) hx hb d_Mo_weaveOne_29 rfl hl (by decide) rfl (fun ls hl => ?_)
      exact w_Mo_weaveOne_30 C0 100000 x0 x1 x186 0 hP hS (lv_sub hl [2, 3, 1, 0] rfl) h
    · rw [if_neg c192] at h
      cases h
      exact r_vret C0 hP hS d_Mo_weaveOne_27
