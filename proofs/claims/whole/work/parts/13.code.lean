/-! AllocationProfiler$Method.weaveFrom -/
def rm_Method_weaveFrom : Room := { frames := 2, cells := 0, slots := 0, locals := 43 }
theorem d_Method_weaveFrom_0 : decode b_Method_weaveFrom 0 = .ok (.aload_n 0, 1) := by decide +kernel
theorem d_Method_weaveFrom_1 : decode b_Method_weaveFrom 1 = .ok (.invokevirtual 44, 3) := by decide +kernel
theorem d_Method_weaveFrom_4 : decode b_Method_weaveFrom 4 = .ok (.aload_n 0, 1) := by decide +kernel
theorem d_Method_weaveFrom_5 : decode b_Method_weaveFrom 5 = .ok (.getfield 30, 3) := by decide +kernel
theorem d_Method_weaveFrom_8 : decode b_Method_weaveFrom 8 = .ok (.ifCond .ne 19, 3) := by decide +kernel
theorem d_Method_weaveFrom_11 : decode b_Method_weaveFrom 11 = .ok (.aload_n 0, 1) := by decide +kernel
theorem d_Method_weaveFrom_12 : decode b_Method_weaveFrom 12 = .ok (.aload_n 0, 1) := by decide +kernel
theorem d_Method_weaveFrom_13 : decode b_Method_weaveFrom 13 = .ok (.getfield 14, 3) := by decide +kernel
theorem d_Method_weaveFrom_16 : decode b_Method_weaveFrom 16 = .ok (.getfield 47, 3) := by decide +kernel
theorem d_Method_weaveFrom_19 : decode b_Method_weaveFrom 19 = .ok (.invokevirtual 51, 3) := by decide +kernel
theorem d_Method_weaveFrom_22 : decode b_Method_weaveFrom 22 = .ok (.bipush 28, 2) := by decide +kernel
theorem d_Method_weaveFrom_24 : decode b_Method_weaveFrom 24 = .ok (.if_icmp .le 5, 3) := by decide +kernel
theorem d_Method_weaveFrom_27 : decode b_Method_weaveFrom 27 = .ok (.iload_n 1, 1) := by decide +kernel
theorem d_Method_weaveFrom_28 : decode b_Method_weaveFrom 28 = .ok (.ireturn, 1) := by decide +kernel
theorem d_Method_weaveFrom_29 : decode b_Method_weaveFrom 29 = .ok (.aload_n 0, 1) := by decide +kernel
theorem d_Method_weaveFrom_30 : decode b_Method_weaveFrom 30 = .ok (.getfield 20, 3) := by decide +kernel
theorem d_Method_weaveFrom_33 : decode b_Method_weaveFrom 33 = .ok (.invokevirtual 55, 3) := by decide +kernel
theorem d_Method_weaveFrom_36 : decode b_Method_weaveFrom 36 = .ok (.iload_n 1, 1) := by decide +kernel
theorem d_Method_weaveFrom_37 : decode b_Method_weaveFrom 37 = .ok (.istore_n 2, 1) := by decide +kernel
theorem d_Method_weaveFrom_38 : decode b_Method_weaveFrom 38 = .ok (.iconst 0, 1) := by decide +kernel
theorem d_Method_weaveFrom_39 : decode b_Method_weaveFrom 39 = .ok (.istore_n 3, 1) := by decide +kernel
theorem d_Method_weaveFrom_40 : decode b_Method_weaveFrom 40 = .ok (.iload_n 3, 1) := by decide +kernel
theorem d_Method_weaveFrom_41 : decode b_Method_weaveFrom 41 = .ok (.aload_n 0, 1) := by decide +kernel
theorem d_Method_weaveFrom_42 : decode b_Method_weaveFrom 42 = .ok (.getfield 14, 3) := by decide +kernel
theorem d_Method_weaveFrom_45 : decode b_Method_weaveFrom 45 = .ok (.getfield 47, 3) := by decide +kernel
theorem d_Method_weaveFrom_48 : decode b_Method_weaveFrom 48 = .ok (.if_icmp .ge 89, 3) := by decide +kernel
theorem d_Method_weaveFrom_51 : decode b_Method_weaveFrom 51 = .ok (.aload_n 0, 1) := by decide +kernel
theorem d_Method_weaveFrom_52 : decode b_Method_weaveFrom 52 = .ok (.getfield 14, 3) := by decide +kernel
theorem d_Method_weaveFrom_55 : decode b_Method_weaveFrom 55 = .ok (.getfield 58, 3) := by decide +kernel
theorem d_Method_weaveFrom_58 : decode b_Method_weaveFrom 58 = .ok (.iload_n 3, 1) := by decide +kernel
theorem d_Method_weaveFrom_59 : decode b_Method_weaveFrom 59 = .ok (.iaload, 1) := by decide +kernel
theorem d_Method_weaveFrom_60 : decode b_Method_weaveFrom 60 = .ok (.istore 4, 2) := by decide +kernel
theorem d_Method_weaveFrom_62 : decode b_Method_weaveFrom 62 = .ok (.aload_n 0, 1) := by decide +kernel
theorem d_Method_weaveFrom_63 : decode b_Method_weaveFrom 63 = .ok (.getfield 14, 3) := by decide +kernel
theorem d_Method_weaveFrom_66 : decode b_Method_weaveFrom 66 = .ok (.getfield 61, 3) := by decide +kernel
theorem d_Method_weaveFrom_69 : decode b_Method_weaveFrom 69 = .ok (.iload_n 3, 1) := by decide +kernel
theorem d_Method_weaveFrom_70 : decode b_Method_weaveFrom 70 = .ok (.iaload, 1) := by decide +kernel
theorem d_Method_weaveFrom_71 : decode b_Method_weaveFrom 71 = .ok (.istore 5, 2) := by decide +kernel
theorem d_Method_weaveFrom_73 : decode b_Method_weaveFrom 73 = .ok (.aload_n 0, 1) := by decide +kernel
theorem d_Method_weaveFrom_74 : decode b_Method_weaveFrom 74 = .ok (.getfield 20, 3) := by decide +kernel
theorem d_Method_weaveFrom_77 : decode b_Method_weaveFrom 77 = .ok (.iload 4, 2) := by decide +kernel
theorem d_Method_weaveFrom_79 : decode b_Method_weaveFrom 79 = .ok (.iload 4, 2) := by decide +kernel
theorem d_Method_weaveFrom_81 : decode b_Method_weaveFrom 81 = .ok (.invokestatic 64, 3) := by decide +kernel
theorem d_Method_weaveFrom_84 : decode b_Method_weaveFrom 84 = .ok (.ifCond .eq 12, 3) := by decide +kernel
theorem d_Method_weaveFrom_87 : decode b_Method_weaveFrom 87 = .ok (.aload_n 0, 1) := by decide +kernel
theorem d_Method_weaveFrom_88 : decode b_Method_weaveFrom 88 = .ok (.iload 5, 2) := by decide +kernel
theorem d_Method_weaveFrom_90 : decode b_Method_weaveFrom 90 = .ok (.invokevirtual 51, 3) := by decide +kernel
theorem d_Method_weaveFrom_93 : decode b_Method_weaveFrom 93 = .ok (.goto 5, 3) := by decide +kernel
theorem d_Method_weaveFrom_96 : decode b_Method_weaveFrom 96 = .ok (.iload 5, 2) := by decide +kernel
theorem d_Method_weaveFrom_98 : decode b_Method_weaveFrom 98 = .ok (.invokevirtual 68, 3) := by decide +kernel
theorem d_Method_weaveFrom_101 : decode b_Method_weaveFrom 101 = .ok (.pop, 1) := by decide +kernel
theorem d_Method_weaveFrom_102 : decode b_Method_weaveFrom 102 = .ok (.iload 4, 2) := by decide +kernel
theorem d_Method_weaveFrom_104 : decode b_Method_weaveFrom 104 = .ok (.invokestatic 72, 3) := by decide +kernel
theorem d_Method_weaveFrom_107 : decode b_Method_weaveFrom 107 = .ok (.ifCond .eq 24, 3) := by decide +kernel
theorem d_Method_weaveFrom_110 : decode b_Method_weaveFrom 110 = .ok (.aload_n 0, 1) := by decide +kernel
theorem d_Method_weaveFrom_111 : decode b_Method_weaveFrom 111 = .ok (.getfield 20, 3) := by decide +kernel
theorem d_Method_weaveFrom_114 : decode b_Method_weaveFrom 114 = .ok (.bipush 16, 2) := by decide +kernel
theorem d_Method_weaveFrom_116 : decode b_Method_weaveFrom 116 = .ok (.iload_n 2, 1) := by decide +kernel
theorem d_Method_weaveFrom_117 : decode b_Method_weaveFrom 117 = .ok (.invokevirtual 68, 3) := by decide +kernel
theorem d_Method_weaveFrom_120 : decode b_Method_weaveFrom 120 = .ok (.pop, 1) := by decide +kernel
theorem d_Method_weaveFrom_121 : decode b_Method_weaveFrom 121 = .ok (.aload_n 0, 1) := by decide +kernel
theorem d_Method_weaveFrom_122 : decode b_Method_weaveFrom 122 = .ok (.getfield 23, 3) := by decide +kernel
theorem d_Method_weaveFrom_125 : decode b_Method_weaveFrom 125 = .ok (.iload_n 3, 1) := by decide +kernel
theorem d_Method_weaveFrom_126 : decode b_Method_weaveFrom 126 = .ok (.iload_n 2, 1) := by decide +kernel
theorem d_Method_weaveFrom_127 : decode b_Method_weaveFrom 127 = .ok (.iastore, 1) := by decide +kernel
theorem d_Method_weaveFrom_128 : decode b_Method_weaveFrom 128 = .ok (.iinc 2 1, 3) := by decide +kernel
theorem d_Method_weaveFrom_131 : decode b_Method_weaveFrom 131 = .ok (.iinc 3 1, 3) := by decide +kernel
theorem d_Method_weaveFrom_134 : decode b_Method_weaveFrom 134 = .ok (.goto (-94), 3) := by decide +kernel
theorem d_Method_weaveFrom_137 : decode b_Method_weaveFrom 137 = .ok (.iconst 0, 1) := by decide +kernel
theorem d_Method_weaveFrom_138 : decode b_Method_weaveFrom 138 = .ok (.istore_n 3, 1) := by decide +kernel
theorem d_Method_weaveFrom_139 : decode b_Method_weaveFrom 139 = .ok (.iload_n 3, 1) := by decide +kernel
theorem d_Method_weaveFrom_140 : decode b_Method_weaveFrom 140 = .ok (.aload_n 0, 1) := by decide +kernel
theorem d_Method_weaveFrom_141 : decode b_Method_weaveFrom 141 = .ok (.getfield 14, 3) := by decide +kernel
theorem d_Method_weaveFrom_144 : decode b_Method_weaveFrom 144 = .ok (.getfield 75, 3) := by decide +kernel
theorem d_Method_weaveFrom_147 : decode b_Method_weaveFrom 147 = .ok (.if_icmp .ge 56, 3) := by decide +kernel
theorem d_Method_weaveFrom_150 : decode b_Method_weaveFrom 150 = .ok (.aload_n 0, 1) := by decide +kernel
theorem d_Method_weaveFrom_151 : decode b_Method_weaveFrom 151 = .ok (.getfield 20, 3) := by decide +kernel
theorem d_Method_weaveFrom_154 : decode b_Method_weaveFrom 154 = .ok (.aload_n 0, 1) := by decide +kernel
theorem d_Method_weaveFrom_155 : decode b_Method_weaveFrom 155 = .ok (.aload_n 0, 1) := by decide +kernel
theorem d_Method_weaveFrom_156 : decode b_Method_weaveFrom 156 = .ok (.getfield 14, 3) := by decide +kernel
theorem d_Method_weaveFrom_159 : decode b_Method_weaveFrom 159 = .ok (.getfield 78, 3) := by decide +kernel
theorem d_Method_weaveFrom_162 : decode b_Method_weaveFrom 162 = .ok (.iload_n 3, 1) := by decide +kernel
theorem d_Method_weaveFrom_163 : decode b_Method_weaveFrom 163 = .ok (.iaload, 1) := by decide +kernel
theorem d_Method_weaveFrom_164 : decode b_Method_weaveFrom 164 = .ok (.invokevirtual 51, 3) := by decide +kernel
theorem d_Method_weaveFrom_167 : decode b_Method_weaveFrom 167 = .ok (.aload_n 0, 1) := by decide +kernel
theorem d_Method_weaveFrom_168 : decode b_Method_weaveFrom 168 = .ok (.aload_n 0, 1) := by decide +kernel
theorem d_Method_weaveFrom_169 : decode b_Method_weaveFrom 169 = .ok (.getfield 14, 3) := by decide +kernel
theorem d_Method_weaveFrom_172 : decode b_Method_weaveFrom 172 = .ok (.getfield 81, 3) := by decide +kernel
theorem d_Method_weaveFrom_175 : decode b_Method_weaveFrom 175 = .ok (.iload_n 3, 1) := by decide +kernel
theorem d_Method_weaveFrom_176 : decode b_Method_weaveFrom 176 = .ok (.iaload, 1) := by decide +kernel
theorem d_Method_weaveFrom_177 : decode b_Method_weaveFrom 177 = .ok (.invokevirtual 51, 3) := by decide +kernel
theorem d_Method_weaveFrom_180 : decode b_Method_weaveFrom 180 = .ok (.aload_n 0, 1) := by decide +kernel
theorem d_Method_weaveFrom_181 : decode b_Method_weaveFrom 181 = .ok (.aload_n 0, 1) := by decide +kernel
theorem d_Method_weaveFrom_182 : decode b_Method_weaveFrom 182 = .ok (.getfield 14, 3) := by decide +kernel
theorem d_Method_weaveFrom_185 : decode b_Method_weaveFrom 185 = .ok (.getfield 84, 3) := by decide +kernel
theorem d_Method_weaveFrom_188 : decode b_Method_weaveFrom 188 = .ok (.iload_n 3, 1) := by decide +kernel
theorem d_Method_weaveFrom_189 : decode b_Method_weaveFrom 189 = .ok (.iaload, 1) := by decide +kernel
theorem d_Method_weaveFrom_190 : decode b_Method_weaveFrom 190 = .ok (.invokevirtual 51, 3) := by decide +kernel
theorem d_Method_weaveFrom_193 : decode b_Method_weaveFrom 193 = .ok (.invokevirtual 87, 3) := by decide +kernel
theorem d_Method_weaveFrom_196 : decode b_Method_weaveFrom 196 = .ok (.pop, 1) := by decide +kernel
theorem d_Method_weaveFrom_197 : decode b_Method_weaveFrom 197 = .ok (.iinc 3 1, 3) := by decide +kernel
theorem d_Method_weaveFrom_200 : decode b_Method_weaveFrom 200 = .ok (.goto (-61), 3) := by decide +kernel
theorem d_Method_weaveFrom_203 : decode b_Method_weaveFrom 203 = .ok (.iload_n 2, 1) := by decide +kernel
theorem d_Method_weaveFrom_204 : decode b_Method_weaveFrom 204 = .ok (.ireturn, 1) := by decide +kernel
def j_Method_weaveFrom_131 (k40 : Nat → Int32 → Int32 → fm_M → Option (Int32 × fm_M)) (x0 : Nat) (x2 : Int32) (x3 : Int32) (M : fm_M) : Option (Int32 × fm_M) :=
  k40 x0 x2 (x3 + 1) M
def j_Method_weaveFrom_98 (k40 : Nat → Int32 → Int32 → fm_M → Option (Int32 × fm_M)) (x0 : Nat) (x2 : Int32) (x3 : Int32) (x4 : Int32) (s0 : Nat) (s1 : Int32) (s2 : Int32) (M : fm_M) : Option (Int32 × fm_M) :=
  (ck s0 1).bind fun _ =>
  bd (f_Code_append s0 s1 s2 M) fun x104 M102 =>
  bd (f_AP_makesObject x4 M102) fun x107 M105 =>
  if x107 = 0 then
    j_Method_weaveFrom_131 k40 x0 x2 x3 M105
  else
    (gr x0 6 1).bind fun q109 =>
    (ck q109 1).bind fun _ =>
    bd (f_Code_append q109 16 x2 M105) fun x114 M112 =>
    (gr x0 6 2).bind fun q115 =>
    (si q115 x3 x2 M112).bind fun M117 =>
    j_Method_weaveFrom_131 k40 x0 (x2 + 1) x3 M117
def h_Method_weaveFrom_139 : Nat → Nat → Int32 → Int32 → fm_M → Option (Int32 × fm_M)
  | 0, _, _, _, _ => none
  | n + 1, x0, x2, x3, M =>
    (gr x0 6 0).bind fun q119 =>
    (gi q119 1 6 M).bind fun x121 =>
    if x121 ≤ x3 then
      some (x2, M)
    else
      (gr x0 6 1).bind fun q124 =>
      (gr x0 6 0).bind fun q126 =>
      (gr q126 1 2).bind fun q128 =>
      (ai q128 x3 M).bind fun x130 =>
      (ck x0 6).bind fun _ =>
      bd (f_Method_placeOf x0 x130 M) fun x135 M133 =>
      (gr x0 6 0).bind fun q136 =>
      (gr q136 1 3).bind fun q138 =>
      (ai q138 x3 M133).bind fun x140 =>
      (ck x0 6).bind fun _ =>
      bd (f_Method_placeOf x0 x140 M133) fun x145 M143 =>
      (gr x0 6 0).bind fun q146 =>
      (gr q146 1 4).bind fun q148 =>
      (ai q148 x3 M143).bind fun x150 =>
      (ck x0 6).bind fun _ =>
      bd (f_Method_placeOf x0 x150 M143) fun x155 M153 =>
      (ck q124 1).bind fun _ =>
      bd (f_Code_appendRange q124 x135 x145 x155 M153) fun x159 M157 =>
      h_Method_weaveFrom_139 n x0 x2 (x3 + 1) M157
def h_Method_weaveFrom_40 : Nat → Nat → Int32 → Int32 → fm_M → Option (Int32 × fm_M)
  | 0, _, _, _, _ => none
  | n + 1, x0, x2, x3, M =>
    (gr x0 6 0).bind fun q160 =>
    (gi q160 1 5 M).bind fun x162 =>
    if x162 ≤ x3 then
      h_Method_weaveFrom_139 100000 x0 x2 0 M
    else
      (gr x0 6 0).bind fun q165 =>
      (gr q165 1 0).bind fun q167 =>
      (ai q167 x3 M).bind fun x169 =>
      (gr x0 6 0).bind fun q171 =>
      (gr q171 1 1).bind fun q173 =>
      (ai q173 x3 M).bind fun x175 =>
      (gr x0 6 1).bind fun q177 =>
      bd (f_AP_branches x169 M) fun x181 M179 =>
      if x181 = 0 then
        j_Method_weaveFrom_98 (h_Method_weaveFrom_40 n) x0 x2 x3 x169 q177 x169 x175 M179
      else
        (ck x0 6).bind fun _ =>
        bd (f_Method_placeOf x0 x175 M179) fun x186 M184 =>
        j_Method_weaveFrom_98 (h_Method_weaveFrom_40 n) x0 x2 x3 x169 q177 x169 x186 M184
def f_Method_weaveFrom (x0 : Nat) (x1 : Int32) (M : fm_M) : Option (Int32 × fm_M) :=
  (ck x0 6).bind fun _ =>
  (f_Method_findPlaces x0 M).bind fun M188 =>
  (gi x0 6 4 M188).bind fun x190 =>
  if x190 = 0 then
    (gr x0 6 0).bind fun q193 =>
    (gi q193 1 5 M188).bind fun x195 =>
    (ck x0 6).bind fun _ =>
    bd (f_Method_placeOf x0 x195 M188) fun x200 M198 =>
    if x200 ≤ 28 then
      (gr x0 6 1).bind fun q202 =>
      (ck q202 1).bind fun _ =>
      (f_Code_clear q202 M198).bind fun M205 =>
      h_Method_weaveFrom_40 100000 x0 x1 0 M205
    else
      some (x1, M198)
  else
    some (x1, M188)
set_option maxHeartbeats 4000000 in
set_option maxRecDepth 100000 in
theorem w_Method_weaveFrom_131 {p : Program} {l : Launch} {e : Env} {s : State} {m : MethodId} {args : Array Value} {below : List Frame} {meth : Method} {c : Code} {G : fm_G} (C0 : fm_C p s m args meth c G (.code y_Method_weaveFrom b_Method_weaveFrom 6 (some .int)) "AllocationProfiler$Method" b_Method_weaveFrom 6 (some .int)) {v : Int32} {M' : fm_M} (k40 : Nat → Int32 → Int32 → fm_M → Option (Int32 × fm_M)) (hk40 : ∀ (x0 : Nat) (x2 : Int32) (x3 : Int32) {M : fm_M} {H : Heap} {locs : List Loc}, kP G M H → kS G s H locs → ∀ {ls : Array Slot}, lv_has ls 6 [(0, .ref (G.2.2 + x0)), (2, .int x2), (3, .int x3)] → k40 x0 x2 x3 M = some (v, M') → W p l e rm_Method_weaveFrom s m args below meth c H locs 0 0 (MQ below (fm_Q G 212 shF (some (.int v)) M') args s 0 0 (fm_A G.2.2)) (F0 m 40 ls [])) (x0 : Nat) (x2 : Int32) (x3 : Int32) {M : fm_M} {H : Heap} {locs : List Loc} (hP : kP G M H) (hS : kS G s H locs) {ls : Array Slot} (hl : lv_has ls 6 [(0, .ref (G.2.2 + x0)), (2, .int x2), (3, .int x3)]) (h : j_Method_weaveFrom_131 k40 x0 x2 x3 M = some (v, M')) : W p l e rm_Method_weaveFrom s m args below meth c H locs 0 0 (MQ below (fm_Q G 212 shF (some (.int v)) M') args s 0 0 (fm_A G.2.2)) (F0 m 131 ls []) := by
  have hx := C0.1
  have hb := C0.2.1
  unfold j_Method_weaveFrom_131 at h
  refine lv_iinc (v := (x3 + 1)) (lv' := [(3, .int (x3 + 1)), (0, .ref (G.2.2 + x0)), (2, .int x2)]) hx hb d_Method_weaveFrom_131 hl (k := 2) rfl (congrArg (fun z => x3 + z) ic_1) (by decide) rfl (fun ls hl => ?_)
  refine lv_goto (tgt := 40) hx hb d_Method_weaveFrom_134 (by decide) ?_
  exact hk40 x0 x2 (x3 + 1) hP hS (lv_sub hl [1, 2, 0] rfl) h
set_option maxHeartbeats 4000000 in
set_option maxRecDepth 100000 in
theorem w_Method_weaveFrom_98 {p : Program} {l : Launch} {e : Env} {s : State} {m : MethodId} {args : Array Value} {below : List Frame} {meth : Method} {c : Code} {G : fm_G} (C0 : fm_C p s m args meth c G (.code y_Method_weaveFrom b_Method_weaveFrom 6 (some .int)) "AllocationProfiler$Method" b_Method_weaveFrom 6 (some .int)) {v : Int32} {M' : fm_M} (k40 : Nat → Int32 → Int32 → fm_M → Option (Int32 × fm_M)) (hk40 : ∀ (x0 : Nat) (x2 : Int32) (x3 : Int32) {M : fm_M} {H : Heap} {locs : List Loc}, kP G M H → kS G s H locs → ∀ {ls : Array Slot}, lv_has ls 6 [(0, .ref (G.2.2 + x0)), (2, .int x2), (3, .int x3)] → k40 x0 x2 x3 M = some (v, M') → W p l e rm_Method_weaveFrom s m args below meth c H locs 0 0 (MQ below (fm_Q G 212 shF (some (.int v)) M') args s 0 0 (fm_A G.2.2)) (F0 m 40 ls [])) (x0 : Nat) (x2 : Int32) (x3 : Int32) (x4 : Int32) (s0 : Nat) (s1 : Int32) (s2 : Int32) {M : fm_M} {H : Heap} {locs : List Loc} (hP : kP G M H) (hS : kS G s H locs) {ls : Array Slot} (hl : lv_has ls 6 [(0, .ref (G.2.2 + x0)), (2, .int x2), (3, .int x3), (4, .int x4)]) (h : j_Method_weaveFrom_98 k40 x0 x2 x3 x4 s0 s1 s2 M = some (v, M')) : W p l e rm_Method_weaveFrom s m args below meth c H locs 0 0 (MQ below (fm_Q G 212 shF (some (.int v)) M') args s 0 0 (fm_A G.2.2)) (F0 m 98 ls [.int s2, .int s1, .ref (G.2.2 + s0)]) := by
  have hx := C0.1
  have hb := C0.2.1
  unfold j_Method_weaveFrom_98 at h
  obtain ⟨_, e101, h⟩ := ob h
  obtain ⟨x104, M102, e103, h⟩ := ob2 h
  refine k_cV C0 L_Method_68 (As := [.int s1, .int s2]) (c_Code_append l G s0 s1 s2 e103) ⟨rfl, rfl⟩ ⟨Nat.le_of_ble_eq_true rfl, Nat.le_of_ble_eq_true rfl⟩ hP hS (ck_of e101) ly_Code rfl hl.1 rfl (Nat.le_of_ble_eq_true rfl) d_Method_weaveFrom_98 ⟨Nat.zero_le _, Nat.zero_le _⟩ (fun H locs hP hS => ?_)
  refine lv_pop hx hb d_Method_weaveFrom_101 rfl ?_
  refine lv_iload hx hb d_Method_weaveFrom_102 (lv_at hl 3 rfl) ?_
  obtain ⟨x107, M105, e106, h⟩ := ob2 h
  refine k_cSN C0 L_Method_72 (As := [.int x4]) (c_AP_makesObject l G x4 e106) ⟨rfl, rfl⟩ ⟨Nat.le_of_ble_eq_true rfl, Nat.le_of_ble_eq_true rfl⟩ hP hS rfl hl.1 rfl (Nat.le_of_ble_eq_true rfl) d_Method_weaveFrom_104 ⟨Nat.zero_le _, Nat.zero_le _⟩ (fun H locs hP hS => ?_)
  refine lv_if_eq (tgt := 131) hx hb d_Method_weaveFrom_107 (by decide) (fun c108 => ?_) (fun c108 => ?_)
  · rw [if_pos c108] at h
    exact w_Method_weaveFrom_131 C0 k40 hk40 x0 x2 x3 hP hS (lv_sub hl [0, 1, 2] rfl) h
  · rw [if_neg c108] at h
    refine lv_aload_n hx hb d_Method_weaveFrom_110 rfl (lv_at hl 0 rfl) ?_
    obtain ⟨q109, e110, h⟩ := ob h
    refine k_gr C0 F_Method_20 hP e110 d_Method_weaveFrom_111 ?_
    refine lv_bipush (v := 16) hx hb d_Method_weaveFrom_114 bp_16 ?_
    refine lv_iload_n hx hb d_Method_weaveFrom_116 rfl (lv_at hl 1 rfl) ?_
    obtain ⟨_, e111, h⟩ := ob h
    obtain ⟨x114, M112, e113, h⟩ := ob2 h
    refine k_cV C0 L_Method_68 (As := [.int 16, .int x2]) (c_Code_append l G q109 16 x2 e113) ⟨rfl, rfl⟩ ⟨Nat.le_of_ble_eq_true rfl, Nat.le_of_ble_eq_true rfl⟩ hP hS (ck_of e111) ly_Code rfl hl.1 rfl (Nat.le_of_ble_eq_true rfl) d_Method_weaveFrom_117 ⟨Nat.zero_le _, Nat.zero_le _⟩ (fun H locs hP hS => ?_)
    refine lv_pop hx hb d_Method_weaveFrom_120 rfl ?_
    refine lv_aload_n hx hb d_Method_weaveFrom_121 rfl (lv_at hl 0 rfl) ?_
    obtain ⟨q115, e116, h⟩ := ob h
    refine k_gr C0 F_Method_23 hP e116 d_Method_weaveFrom_122 ?_
    refine lv_iload_n hx hb d_Method_weaveFrom_125 rfl (lv_at hl 2 rfl) ?_
    refine lv_iload_n hx hb d_Method_weaveFrom_126 rfl (lv_at hl 1 rfl) ?_
    obtain ⟨M117, e118, h⟩ := ob h
    refine k_si C0 hP hS e118 d_Method_weaveFrom_127 (fun H locs hP hS => ?_)
    refine lv_iinc (v := (x2 + 1)) (lv' := [(2, .int (x2 + 1)), (0, .ref (G.2.2 + x0)), (3, .int x3), (4, .int x4)]) hx hb d_Method_weaveFrom_128 hl (k := 1) rfl (congrArg (fun z => x2 + z) ic_1) (by decide) rfl (fun ls hl => ?_)
    exact w_Method_weaveFrom_131 C0 k40 hk40 x0 (x2 + 1) x3 hP hS (lv_sub hl [1, 0, 2] rfl) h
set_option maxHeartbeats 4000000 in
set_option maxRecDepth 100000 in
theorem w_Method_weaveFrom_139 {p : Program} {l : Launch} {e : Env} {s : State} {m : MethodId} {args : Array Value} {below : List Frame} {meth : Method} {c : Code} {G : fm_G} (C0 : fm_C p s m args meth c G (.code y_Method_weaveFrom b_Method_weaveFrom 6 (some .int)) "AllocationProfiler$Method" b_Method_weaveFrom 6 (some .int)) {v : Int32} {M' : fm_M} : ∀ (n : Nat) (x0 : Nat) (x2 : Int32) (x3 : Int32) {M : fm_M} {H : Heap} {locs : List Loc}, kP G M H → kS G s H locs → ∀ {ls : Array Slot}, lv_has ls 6 [(0, .ref (G.2.2 + x0)), (2, .int x2), (3, .int x3)] → h_Method_weaveFrom_139 n x0 x2 x3 M = some (v, M') → W p l e rm_Method_weaveFrom s m args below meth c H locs 0 0 (MQ below (fm_Q G 212 shF (some (.int v)) M') args s 0 0 (fm_A G.2.2)) (F0 m 139 ls []) := by
  have hx := C0.1
  have hb := C0.2.1
  intro n
  induction n with
  | zero =>
    intro x0 x2 x3 M H locs hP hS ls hl h
    exact nomatch h
  | succ n ih =>
    intro x0 x2 x3 M H locs hP hS ls hl h
    have h : ((gr x0 6 0).bind fun q119 =>
      (gi q119 1 6 M).bind fun x121 =>
      if x121 ≤ x3 then
        some (x2, M)
      else
        (gr x0 6 1).bind fun q124 =>
        (gr x0 6 0).bind fun q126 =>
        (gr q126 1 2).bind fun q128 =>
        (ai q128 x3 M).bind fun x130 =>
        (ck x0 6).bind fun _ =>
        bd (f_Method_placeOf x0 x130 M) fun x135 M133 =>
        (gr x0 6 0).bind fun q136 =>
        (gr q136 1 3).bind fun q138 =>
        (ai q138 x3 M133).bind fun x140 =>
        (ck x0 6).bind fun _ =>
        bd (f_Method_placeOf x0 x140 M133) fun x145 M143 =>
        (gr x0 6 0).bind fun q146 =>
        (gr q146 1 4).bind fun q148 =>
        (ai q148 x3 M143).bind fun x150 =>
        (ck x0 6).bind fun _ =>
        bd (f_Method_placeOf x0 x150 M143) fun x155 M153 =>
        (ck q124 1).bind fun _ =>
        bd (f_Code_appendRange q124 x135 x145 x155 M153) fun x159 M157 =>
        h_Method_weaveFrom_139 n x0 x2 (x3 + 1) M157) = some (v, M') := h
    refine lv_iload_n hx hb d_Method_weaveFrom_139 rfl (lv_at hl 2 rfl) ?_
    refine lv_aload_n hx hb d_Method_weaveFrom_140 rfl (lv_at hl 0 rfl) ?_
    obtain ⟨q119, e120, h⟩ := ob h
    refine k_gr C0 F_Method_14 hP e120 d_Method_weaveFrom_141 ?_
    obtain ⟨x121, e122, h⟩ := ob h
    refine k_gi C0 F_Method_75 ik_1_6 hP e122 d_Method_weaveFrom_144 ?_
    refine lv_icmp_ge (tgt := 203) hx hb d_Method_weaveFrom_147 (by decide) (fun c123 => ?_) (fun c123 => ?_)
    · rw [if_pos c123] at h
      refine lv_iload_n hx hb d_Method_weaveFrom_203 rfl (lv_at hl 1 rfl) ?_
      cases h
      exact r_iret C0 hP hS d_Method_weaveFrom_204
    · rw [if_neg c123] at h
      refine lv_aload_n hx hb d_Method_weaveFrom_150 rfl (lv_at hl 0 rfl) ?_
      obtain ⟨q124, e125, h⟩ := ob h
      refine k_gr C0 F_Method_20 hP e125 d_Method_weaveFrom_151 ?_
      refine lv_aload_n hx hb d_Method_weaveFrom_154 rfl (lv_at hl 0 rfl) ?_
      refine lv_aload_n hx hb d_Method_weaveFrom_155 rfl (lv_at hl 0 rfl) ?_
      obtain ⟨q126, e127, h⟩ := ob h
      refine k_gr C0 F_Method_14 hP e127 d_Method_weaveFrom_156 ?_
      obtain ⟨q128, e129, h⟩ := ob h
      refine k_gr C0 F_Method_78 hP e129 d_Method_weaveFrom_159 ?_
      refine lv_iload_n hx hb d_Method_weaveFrom_162 rfl (lv_at hl 2 rfl) ?_
      obtain ⟨x130, e131, h⟩ := ob h
      refine k_ai C0 hP e131 d_Method_weaveFrom_163 ?_
      obtain ⟨_, e132, h⟩ := ob h
      obtain ⟨x135, M133, e134, h⟩ := ob2 h
      refine k_cV C0 L_Method_51 (As := [.int x130]) (c_Method_placeOf l G x0 x130 e134) ⟨rfl, rfl⟩ ⟨Nat.le_of_ble_eq_true rfl, Nat.le_of_ble_eq_true rfl⟩ hP hS (ck_of e132) ly_Method rfl hl.1 rfl (Nat.le_of_ble_eq_true rfl) d_Method_weaveFrom_164 ⟨Nat.zero_le _, Nat.zero_le _⟩ (fun H locs hP hS => ?_)
      refine lv_aload_n hx hb d_Method_weaveFrom_167 rfl (lv_at hl 0 rfl) ?_
      refine lv_aload_n hx hb d_Method_weaveFrom_168 rfl (lv_at hl 0 rfl) ?_
      obtain ⟨q136, e137, h⟩ := ob h
      refine k_gr C0 F_Method_14 hP e137 d_Method_weaveFrom_169 ?_
      obtain ⟨q138, e139, h⟩ := ob h
      refine k_gr C0 F_Method_81 hP e139 d_Method_weaveFrom_172 ?_
      refine lv_iload_n hx hb d_Method_weaveFrom_175 rfl (lv_at hl 2 rfl) ?_
      obtain ⟨x140, e141, h⟩ := ob h
      refine k_ai C0 hP e141 d_Method_weaveFrom_176 ?_
      obtain ⟨_, e142, h⟩ := ob h
      obtain ⟨x145, M143, e144, h⟩ := ob2 h
      refine k_cV C0 L_Method_51 (As := [.int x140]) (c_Method_placeOf l G x0 x140 e144) ⟨rfl, rfl⟩ ⟨Nat.le_of_ble_eq_true rfl, Nat.le_of_ble_eq_true rfl⟩ hP hS (ck_of e142) ly_Method rfl hl.1 rfl (Nat.le_of_ble_eq_true rfl) d_Method_weaveFrom_177 ⟨Nat.zero_le _, Nat.zero_le _⟩ (fun H locs hP hS => ?_)
      refine lv_aload_n hx hb d_Method_weaveFrom_180 rfl (lv_at hl 0 rfl) ?_
      refine lv_aload_n hx hb d_Method_weaveFrom_181 rfl (lv_at hl 0 rfl) ?_
      obtain ⟨q146, e147, h⟩ := ob h
      refine k_gr C0 F_Method_14 hP e147 d_Method_weaveFrom_182 ?_
      obtain ⟨q148, e149, h⟩ := ob h
      refine k_gr C0 F_Method_84 hP e149 d_Method_weaveFrom_185 ?_
      refine lv_iload_n hx hb d_Method_weaveFrom_188 rfl (lv_at hl 2 rfl) ?_
      obtain ⟨x150, e151, h⟩ := ob h
      refine k_ai C0 hP e151 d_Method_weaveFrom_189 ?_
      obtain ⟨_, e152, h⟩ := ob h
      obtain ⟨x155, M153, e154, h⟩ := ob2 h
      refine k_cV C0 L_Method_51 (As := [.int x150]) (c_Method_placeOf l G x0 x150 e154) ⟨rfl, rfl⟩ ⟨Nat.le_of_ble_eq_true rfl, Nat.le_of_ble_eq_true rfl⟩ hP hS (ck_of e152) ly_Method rfl hl.1 rfl (Nat.le_of_ble_eq_true rfl) d_Method_weaveFrom_190 ⟨Nat.zero_le _, Nat.zero_le _⟩ (fun H locs hP hS => ?_)
      obtain ⟨_, e156, h⟩ := ob h
      obtain ⟨x159, M157, e158, h⟩ := ob2 h
      refine k_cV C0 L_Method_87 (As := [.int x135, .int x145, .int x155]) (c_Code_appendRange l G q124 x135 x145 x155 e158) ⟨rfl, rfl⟩ ⟨Nat.le_of_ble_eq_true rfl, Nat.le_of_ble_eq_true rfl⟩ hP hS (ck_of e156) ly_Code rfl hl.1 rfl (Nat.le_of_ble_eq_true rfl) d_Method_weaveFrom_193 ⟨Nat.zero_le _, Nat.zero_le _⟩ (fun H locs hP hS => ?_)
      refine lv_pop hx hb d_Method_weaveFrom_196 rfl ?_
      refine lv_iinc (v := (x3 + 1)) (lv' := [(3, .int (x3 + 1)), (0, .ref (G.2.2 + x0)), (2, .int x2)]) hx hb d_Method_weaveFrom_197 hl (k := 2) rfl (congrArg (fun z => x3 + z) ic_1) (by decide) rfl (fun ls hl => ?_)
      refine lv_goto (tgt := 139) hx hb d_Method_weaveFrom_200 (by decide) ?_
      exact ih x0 x2 (x3 + 1) hP hS (lv_sub hl [1, 2, 0] rfl) h
set_option maxHeartbeats 4000000 in
set_option maxRecDepth 100000 in
theorem w_Method_weaveFrom_40 {p : Program} {l : Launch} {e : Env} {s : State} {m : MethodId} {args : Array Value} {below : List Frame} {meth : Method} {c : Code} {G : fm_G} (C0 : fm_C p s m args meth c G (.code y_Method_weaveFrom b_Method_weaveFrom 6 (some .int)) "AllocationProfiler$Method" b_Method_weaveFrom 6 (some .int)) {v : Int32} {M' : fm_M} : ∀ (n : Nat) (x0 : Nat) (x2 : Int32) (x3 : Int32) {M : fm_M} {H : Heap} {locs : List Loc}, kP G M H → kS G s H locs → ∀ {ls : Array Slot}, lv_has ls 6 [(0, .ref (G.2.2 + x0)), (2, .int x2), (3, .int x3)] → h_Method_weaveFrom_40 n x0 x2 x3 M = some (v, M') → W p l e rm_Method_weaveFrom s m args below meth c H locs 0 0 (MQ below (fm_Q G 212 shF (some (.int v)) M') args s 0 0 (fm_A G.2.2)) (F0 m 40 ls []) := by
  have hx := C0.1
  have hb := C0.2.1
  intro n
  induction n with
  | zero =>
    intro x0 x2 x3 M H locs hP hS ls hl h
    exact nomatch h
  | succ n ih =>
    intro x0 x2 x3 M H locs hP hS ls hl h
    have h : ((gr x0 6 0).bind fun q160 =>
      (gi q160 1 5 M).bind fun x162 =>
      if x162 ≤ x3 then
        h_Method_weaveFrom_139 100000 x0 x2 0 M
      else
        (gr x0 6 0).bind fun q165 =>
        (gr q165 1 0).bind fun q167 =>
        (ai q167 x3 M).bind fun x169 =>
        (gr x0 6 0).bind fun q171 =>
        (gr q171 1 1).bind fun q173 =>
        (ai q173 x3 M).bind fun x175 =>
        (gr x0 6 1).bind fun q177 =>
        bd (f_AP_branches x169 M) fun x181 M179 =>
        if x181 = 0 then
          j_Method_weaveFrom_98 (h_Method_weaveFrom_40 n) x0 x2 x3 x169 q177 x169 x175 M179
        else
          (ck x0 6).bind fun _ =>
          bd (f_Method_placeOf x0 x175 M179) fun x186 M184 =>
          j_Method_weaveFrom_98 (h_Method_weaveFrom_40 n) x0 x2 x3 x169 q177 x169 x186 M184) = some (v, M') := h
    refine lv_iload_n hx hb d_Method_weaveFrom_40 rfl (lv_at hl 2 rfl) ?_
    refine lv_aload_n hx hb d_Method_weaveFrom_41 rfl (lv_at hl 0 rfl) ?_
    obtain ⟨q160, e161, h⟩ := ob h
    refine k_gr C0 F_Method_14 hP e161 d_Method_weaveFrom_42 ?_
    obtain ⟨x162, e163, h⟩ := ob h
    refine k_gi C0 F_Method_47 ik_1_5 hP e163 d_Method_weaveFrom_45 ?_
    refine lv_icmp_ge (tgt := 137) hx hb d_Method_weaveFrom_48 (by decide) (fun c164 => ?_) (fun c164 => ?_)
    · rw [if_pos c164] at h
      refine lv_iconst (v := 0) hx hb d_Method_weaveFrom_137 ic_0 ?_
      refine lv_istore_n (lv' := [(3, .int 0), (0, .ref (G.2.2 + x0)), (2, .int x2)]) hx hb d_Method_weaveFrom_138 rfl hl (by decide) rfl (fun ls hl => ?_)
      exact w_Method_weaveFrom_139 C0 100000 x0 x2 0 hP hS (lv_sub hl [1, 2, 0] rfl) h
    · rw [if_neg c164] at h
      refine lv_aload_n hx hb d_Method_weaveFrom_51 rfl (lv_at hl 0 rfl) ?_
      obtain ⟨q165, e166, h⟩ := ob h
      refine k_gr C0 F_Method_14 hP e166 d_Method_weaveFrom_52 ?_
      obtain ⟨q167, e168, h⟩ := ob h
      refine k_gr C0 F_Method_58 hP e168 d_Method_weaveFrom_55 ?_
      refine lv_iload_n hx hb d_Method_weaveFrom_58 rfl (lv_at hl 2 rfl) ?_
      obtain ⟨x169, e170, h⟩ := ob h
      refine k_ai C0 hP e170 d_Method_weaveFrom_59 ?_
      refine lv_istore (lv' := [(4, .int x169), (0, .ref (G.2.2 + x0)), (2, .int x2), (3, .int x3)]) hx hb d_Method_weaveFrom_60 hl (by decide) rfl (fun ls hl => ?_)
      refine lv_aload_n hx hb d_Method_weaveFrom_62 rfl (lv_at hl 1 rfl) ?_
      obtain ⟨q171, e172, h⟩ := ob h
      refine k_gr C0 F_Method_14 hP e172 d_Method_weaveFrom_63 ?_
      obtain ⟨q173, e174, h⟩ := ob h
      refine k_gr C0 F_Method_61 hP e174 d_Method_weaveFrom_66 ?_
      refine lv_iload_n hx hb d_Method_weaveFrom_69 rfl (lv_at hl 3 rfl) ?_
      obtain ⟨x175, e176, h⟩ := ob h
      refine k_ai C0 hP e176 d_Method_weaveFrom_70 ?_
      refine lv_istore (lv' := [(5, .int x175), (4, .int x169), (0, .ref (G.2.2 + x0)), (2, .int x2), (3, .int x3)]) hx hb d_Method_weaveFrom_71 hl (by decide) rfl (fun ls hl => ?_)
      refine lv_aload_n hx hb d_Method_weaveFrom_73 rfl (lv_at hl 2 rfl) ?_
      obtain ⟨q177, e178, h⟩ := ob h
      refine k_gr C0 F_Method_20 hP e178 d_Method_weaveFrom_74 ?_
      refine lv_iload hx hb d_Method_weaveFrom_77 (lv_at hl 1 rfl) ?_
      refine lv_iload hx hb d_Method_weaveFrom_79 (lv_at hl 1 rfl) ?_
      obtain ⟨x181, M179, e180, h⟩ := ob2 h
      refine k_cSN C0 L_Method_64 (As := [.int x169]) (c_AP_branches l G x169 e180) ⟨rfl, rfl⟩ ⟨Nat.le_of_ble_eq_true rfl, Nat.le_of_ble_eq_true rfl⟩ hP hS rfl hl.1 rfl (Nat.le_of_ble_eq_true rfl) d_Method_weaveFrom_81 ⟨Nat.zero_le _, Nat.zero_le _⟩ (fun H locs hP hS => ?_)
      refine lv_if_eq (tgt := 96) hx hb d_Method_weaveFrom_84 (by decide) (fun c182 => ?_) (fun c182 => ?_)
      · rw [if_pos c182] at h
        refine lv_iload hx hb d_Method_weaveFrom_96 (lv_at hl 0 rfl) ?_
        exact w_Method_weaveFrom_98 C0 (h_Method_weaveFrom_40 n) ih x0 x2 x3 x169 q177 x169 x175 hP hS (lv_sub hl [2, 3, 4, 1] rfl) h
      · rw [if_neg c182] at h
        refine lv_aload_n hx hb d_Method_weaveFrom_87 rfl (lv_at hl 2 rfl) ?_
        refine lv_iload hx hb d_Method_weaveFrom_88 (lv_at hl 0 rfl) ?_
        obtain ⟨_, e183, h⟩ := ob h
        obtain ⟨x186, M184, e185, h⟩ := ob2 h
        refine k_cV C0 L_Method_51 (As := [.int x175]) (c_Method_placeOf l G x0 x175 e185) ⟨rfl, rfl⟩ ⟨Nat.le_of_ble_eq_true rfl, Nat.le_of_ble_eq_true rfl⟩ hP hS (ck_of e183) ly_Method rfl hl.1 rfl (Nat.le_of_ble_eq_true rfl) d_Method_weaveFrom_90 ⟨Nat.zero_le _, Nat.zero_le _⟩ (fun H locs hP hS => ?_)
        refine lv_goto (tgt := 98) hx hb d_Method_weaveFrom_93 (by decide) ?_
        exact w_Method_weaveFrom_98 C0 (h_Method_weaveFrom_40 n) ih x0 x2 x3 x169 q177 x169 x186 hP hS (lv_sub hl [2, 3, 4, 1] rfl) h
set_option maxHeartbeats 4000000 in
set_option maxRecDepth 100000 in
theorem c_Method_weaveFrom (l : Launch) (G : fm_G) (x0 : Nat) (x1 : Int32) {v : Int32} {M M' : fm_M} (h : f_Method_weaveFrom x0 x1 M = some (v, M')) : kMet l y_Method_weaveFrom b_Method_weaveFrom 6 (some .int) rm_Method_weaveFrom G M [.ref (G.2.2 + x0), .int x1] (some (.int v)) M' := by
  refine r_met (by decide) rfl (Nat.le_of_ble_eq_true rfl) (fun p e s m args below meth c C0 hP ls hl => ?_)
  have hx := C0.1
  have hb := C0.2.1
  have hl : lv_has ls 6 [(0, .ref (G.2.2 + x0)), (1, .int x1)] := hl
  have hS : va_S (fm_A G.2.2) s.heap s.heap [] := va_S.rf
  unfold f_Method_weaveFrom at h
  refine lv_aload_n hx hb d_Method_weaveFrom_0 rfl (lv_at hl 0 rfl) ?_
  obtain ⟨_, e187, h⟩ := ob h
  obtain ⟨M188, e189, h⟩ := ob h
  refine k_cVv C0 L_Method_44 (As := []) (c_Method_findPlaces l G x0 e189) ⟨rfl, rfl⟩ ⟨Nat.le_of_ble_eq_true rfl, Nat.le_of_ble_eq_true rfl⟩ hP hS (ck_of e187) ly_Method rfl hl.1 rfl (Nat.le_of_ble_eq_true rfl) d_Method_weaveFrom_1 ⟨Nat.zero_le _, Nat.zero_le _⟩ (fun H locs hP hS => ?_)
  refine lv_aload_n hx hb d_Method_weaveFrom_4 rfl (lv_at hl 0 rfl) ?_
  obtain ⟨x190, e191, h⟩ := ob h
  refine k_gi C0 F_Method_30 ik_6_4 hP e191 d_Method_weaveFrom_5 ?_
  refine lv_if_ne (tgt := 27) hx hb d_Method_weaveFrom_8 (by decide) (fun c192 => ?_) (fun c192 => ?_)
  · rw [if_neg c192] at h
    refine lv_iload_n hx hb d_Method_weaveFrom_27 rfl (lv_at hl 1 rfl) ?_
    cases h
    exact r_iret C0 hP hS d_Method_weaveFrom_28
  · rw [if_pos c192] at h
    refine lv_aload_n hx hb d_Method_weaveFrom_11 rfl (lv_at hl 0 rfl) ?_
    refine lv_aload_n hx hb d_Method_weaveFrom_12 rfl (lv_at hl 0 rfl) ?_
    obtain ⟨q193, e194, h⟩ := ob h
    refine k_gr C0 F_Method_14 hP e194 d_Method_weaveFrom_13 ?_
    obtain ⟨x195, e196, h⟩ := ob h
    refine k_gi C0 F_Method_47 ik_1_5 hP e196 d_Method_weaveFrom_16 ?_
    obtain ⟨_, e197, h⟩ := ob h
    obtain ⟨x200, M198, e199, h⟩ := ob2 h
    refine k_cV C0 L_Method_51 (As := [.int x195]) (c_Method_placeOf l G x0 x195 e199) ⟨rfl, rfl⟩ ⟨Nat.le_of_ble_eq_true rfl, Nat.le_of_ble_eq_true rfl⟩ hP hS (ck_of e197) ly_Method rfl hl.1 rfl (Nat.le_of_ble_eq_true rfl) d_Method_weaveFrom_19 ⟨Nat.zero_le _, Nat.zero_le _⟩ (fun H locs hP hS => ?_)
    refine lv_bipush (v := 28) hx hb d_Method_weaveFrom_22 bp_28 ?_
    refine lv_icmp_le (tgt := 29) hx hb d_Method_weaveFrom_24 (by decide) (fun c201 => ?_) (fun c201 => ?_)
    · rw [if_pos c201] at h
      refine lv_aload_n hx hb d_Method_weaveFrom_29 rfl (lv_at hl 0 rfl) ?_
      obtain ⟨q202, e203, h⟩ := ob h
      refine k_gr C0 F_Method_20 hP e203 d_Method_weaveFrom_30 ?_
      obtain ⟨_, e204, h⟩ := ob h
      obtain ⟨M205, e206, h⟩ := ob h
      refine k_cVv C0 L_Method_55 (As := []) (c_Code_clear l G q202 e206) ⟨rfl, rfl⟩ ⟨Nat.le_of_ble_eq_true rfl, Nat.le_of_ble_eq_true rfl⟩ hP hS (ck_of e204) ly_Code rfl hl.1 rfl (Nat.le_of_ble_eq_true rfl) d_Method_weaveFrom_33 ⟨Nat.zero_le _, Nat.zero_le _⟩ (fun H locs hP hS => ?_)
      refine lv_iload_n hx hb d_Method_weaveFrom_36 rfl (lv_at hl 1 rfl) ?_
      refine lv_istore_n (lv' := [(2, .int x1), (0, .ref (G.2.2 + x0)), (1, .int x1)]) hx hb d_Method_weaveFrom_37 rfl hl (by decide) rfl (fun ls hl => ?_)
      refine lv_iconst (v := 0) hx hb d_Method_weaveFrom_38 ic_0 ?_
      refine lv_istore_n (lv' := [(3, .int 0), (2, .int x1), (0, .ref (G.2.2 + x0)), (1, .int x1)]) hx hb d_Method_weaveFrom_39 rfl hl (by decide) rfl (fun ls hl => ?_)
      exact w_Method_weaveFrom_40 C0 100000 x0 x1 0 hP hS (lv_sub hl [2, 1, 0] rfl) h
    · rw [if_neg c201] at h
      refine lv_iload_n hx hb d_Method_weaveFrom_27 rfl (lv_at hl 1 rfl) ?_
      cases h
      exact r_iret C0 hP hS d_Method_weaveFrom_28
/-! AllocationProfiler$Ledger.open -/
def rm_Ledger_open : Room := { frames := 1, cells := 0, slots := 0, locals := 23 }
theorem d_Ledger_open_0 : decode b_Ledger_open 0 = .ok (.aload_n 0, 1) := by decide +kernel
theorem d_Ledger_open_1 : decode b_Ledger_open 1 = .ok (.iload_n 1, 1) := by decide +kernel
theorem d_Ledger_open_2 : decode b_Ledger_open 2 = .ok (.putfield 45, 3) := by decide +kernel
theorem d_Ledger_open_5 : decode b_Ledger_open 5 = .ok (.aload_n 0, 1) := by decide +kernel
theorem d_Ledger_open_6 : decode b_Ledger_open 6 = .ok (.iload_n 2, 1) := by decide +kernel
theorem d_Ledger_open_7 : decode b_Ledger_open 7 = .ok (.putfield 52, 3) := by decide +kernel
theorem d_Ledger_open_10 : decode b_Ledger_open 10 = .ok (.aload_n 0, 1) := by decide +kernel
theorem d_Ledger_open_11 : decode b_Ledger_open 11 = .ok (.getfield 33, 3) := by decide +kernel
theorem d_Ledger_open_14 : decode b_Ledger_open 14 = .ok (.iload_n 2, 1) := by decide +kernel
theorem d_Ledger_open_15 : decode b_Ledger_open 15 = .ok (.invokestatic 55, 3) := by decide +kernel
theorem d_Ledger_open_18 : decode b_Ledger_open 18 = .ok (.return_, 1) := by decide +kernel
def f_Ledger_open (x0 : Nat) (x1 : Int32) (x2 : Int32) (M : fm_M) : Option fm_M :=
  (pi x0 4 9 x1 M).bind fun M101 =>
  (pi x0 4 11 x2 M101).bind fun M103 =>
  (gr x0 4 5).bind fun q105 =>
  (f_Arrays_fill q105 x2 M103).bind fun M107 =>
  some M107
set_option maxHeartbeats 4000000 in
set_option maxRecDepth 100000 in
theorem c_Ledger_open (l : Launch) (G : fm_G) (x0 : Nat) (x1 : Int32) (x2 : Int32) {M M' : fm_M} (h : f_Ledger_open x0 x1 x2 M = some M') : kMet l y_Ledger_open b_Ledger_open 3 none rm_Ledger_open G M [.ref (G.2.2 + x0), .int x1, .int x2] none M' := by
  refine r_met (by decide) rfl (Nat.le_of_ble_eq_true rfl) (fun p e s m args below meth c C0 hP ls hl => ?_)
  have hx := C0.1
  have hb := C0.2.1
  have hl : lv_has ls 3 [(0, .ref (G.2.2 + x0)), (1, .int x1), (2, .int x2)] := hl
  have hS : va_S (fm_A G.2.2) s.heap s.heap [] := va_S.rf
  unfold f_Ledger_open at h
  refine lv_aload_n hx hb d_Ledger_open_0 rfl (lv_at hl 0 rfl) ?_
  refine lv_iload_n hx hb d_Ledger_open_1 rfl (lv_at hl 1 rfl) ?_
  obtain ⟨M101, e102, h⟩ := ob h
  refine k_pi C0 F_Ledger_45p ik_4_9 hP hS e102 d_Ledger_open_2 (fun H locs hP hS => ?_)
  refine lv_aload_n hx hb d_Ledger_open_5 rfl (lv_at hl 0 rfl) ?_
  refine lv_iload_n hx hb d_Ledger_open_6 rfl (lv_at hl 2 rfl) ?_
  obtain ⟨M103, e104, h⟩ := ob h
  refine k_pi C0 F_Ledger_52p ik_4_11 hP hS e104 d_Ledger_open_7 (fun H locs hP hS => ?_)
  refine lv_aload_n hx hb d_Ledger_open_10 rfl (lv_at hl 0 rfl) ?_
  obtain ⟨q105, e106, h⟩ := ob h
  refine k_gr C0 F_Ledger_33 hP e106 d_Ledger_open_11 ?_
  refine lv_iload_n hx hb d_Ledger_open_14 rfl (lv_at hl 2 rfl) ?_
  obtain ⟨M107, e108, h⟩ := ob h
  refine k_cSv C0 L_Ledger_55 (As := [.ref (G.2.2 + q105), .int x2]) (c_Arrays_fill l G q105 x2 e108) ⟨rfl, rfl⟩ ⟨Nat.le_of_ble_eq_true rfl, Nat.le_of_ble_eq_true rfl⟩ hP hS rfl hl.1 rfl (Nat.le_of_ble_eq_true rfl) d_Ledger_open_15 ⟨Nat.zero_le _, Nat.zero_le _⟩ (fun H locs hP hS => ?_)
  cases h
  exact r_vret C0 hP hS d_Ledger_open_18
/-! AllocationProfiler$Ledger.drawSamples -/
def rm_Ledger_drawSamples : Room := { frames := 0, cells := 0, slots := 0, locals := 0 }
theorem d_Ledger_drawSamples_0 : decode b_Ledger_drawSamples 0 = .ok (.aload_n 0, 1) := by decide +kernel
theorem d_Ledger_drawSamples_1 : decode b_Ledger_drawSamples 1 = .ok (.getfield 33, 3) := by decide +kernel
theorem d_Ledger_drawSamples_4 : decode b_Ledger_drawSamples 4 = .ok (.iload_n 1, 1) := by decide +kernel
theorem d_Ledger_drawSamples_5 : decode b_Ledger_drawSamples 5 = .ok (.dup2, 1) := by decide +kernel
theorem d_Ledger_drawSamples_6 : decode b_Ledger_drawSamples 6 = .ok (.iaload, 1) := by decide +kernel
theorem d_Ledger_drawSamples_7 : decode b_Ledger_drawSamples 7 = .ok (.iload_n 2, 1) := by decide +kernel
theorem d_Ledger_drawSamples_8 : decode b_Ledger_drawSamples 8 = .ok (.isub, 1) := by decide +kernel
theorem d_Ledger_drawSamples_9 : decode b_Ledger_drawSamples 9 = .ok (.iastore, 1) := by decide +kernel
theorem d_Ledger_drawSamples_10 : decode b_Ledger_drawSamples 10 = .ok (.aload_n 0, 1) := by decide +kernel
theorem d_Ledger_drawSamples_11 : decode b_Ledger_drawSamples 11 = .ok (.getfield 33, 3) := by decide +kernel
theorem d_Ledger_drawSamples_14 : decode b_Ledger_drawSamples 14 = .ok (.iload_n 1, 1) := by decide +kernel
theorem d_Ledger_drawSamples_15 : decode b_Ledger_drawSamples 15 = .ok (.iaload, 1) := by decide +kernel
theorem d_Ledger_drawSamples_16 : decode b_Ledger_drawSamples 16 = .ok (.ifCond .le 5, 3) := by decide +kernel
theorem d_Ledger_drawSamples_19 : decode b_Ledger_drawSamples 19 = .ok (.iconst 0, 1) := by decide +kernel
theorem d_Ledger_drawSamples_20 : decode b_Ledger_drawSamples 20 = .ok (.ireturn, 1) := by decide +kernel
theorem d_Ledger_drawSamples_21 : decode b_Ledger_drawSamples 21 = .ok (.aload_n 0, 1) := by decide +kernel
theorem d_Ledger_drawSamples_22 : decode b_Ledger_drawSamples 22 = .ok (.getfield 33, 3) := by decide +kernel
theorem d_Ledger_drawSamples_25 : decode b_Ledger_drawSamples 25 = .ok (.iload_n 1, 1) := by decide +kernel
theorem d_Ledger_drawSamples_26 : decode b_Ledger_drawSamples 26 = .ok (.iaload, 1) := by decide +kernel
theorem d_Ledger_drawSamples_27 : decode b_Ledger_drawSamples 27 = .ok (.ineg, 1) := by decide +kernel
theorem d_Ledger_drawSamples_28 : decode b_Ledger_drawSamples 28 = .ok (.aload_n 0, 1) := by decide +kernel
theorem d_Ledger_drawSamples_29 : decode b_Ledger_drawSamples 29 = .ok (.getfield 52, 3) := by decide +kernel
theorem d_Ledger_drawSamples_32 : decode b_Ledger_drawSamples 32 = .ok (.idiv, 1) := by decide +kernel
theorem d_Ledger_drawSamples_33 : decode b_Ledger_drawSamples 33 = .ok (.iconst 1, 1) := by decide +kernel
theorem d_Ledger_drawSamples_34 : decode b_Ledger_drawSamples 34 = .ok (.iadd, 1) := by decide +kernel
theorem d_Ledger_drawSamples_35 : decode b_Ledger_drawSamples 35 = .ok (.istore_n 3, 1) := by decide +kernel
theorem d_Ledger_drawSamples_36 : decode b_Ledger_drawSamples 36 = .ok (.aload_n 0, 1) := by decide +kernel
theorem d_Ledger_drawSamples_37 : decode b_Ledger_drawSamples 37 = .ok (.getfield 33, 3) := by decide +kernel
theorem d_Ledger_drawSamples_40 : decode b_Ledger_drawSamples 40 = .ok (.iload_n 1, 1) := by decide +kernel
theorem d_Ledger_drawSamples_41 : decode b_Ledger_drawSamples 41 = .ok (.dup2, 1) := by decide +kernel
theorem d_Ledger_drawSamples_42 : decode b_Ledger_drawSamples 42 = .ok (.iaload, 1) := by decide +kernel
theorem d_Ledger_drawSamples_43 : decode b_Ledger_drawSamples 43 = .ok (.iload_n 3, 1) := by decide +kernel
theorem d_Ledger_drawSamples_44 : decode b_Ledger_drawSamples 44 = .ok (.aload_n 0, 1) := by decide +kernel
theorem d_Ledger_drawSamples_45 : decode b_Ledger_drawSamples 45 = .ok (.getfield 52, 3) := by decide +kernel
theorem d_Ledger_drawSamples_48 : decode b_Ledger_drawSamples 48 = .ok (.imul, 1) := by decide +kernel
theorem d_Ledger_drawSamples_49 : decode b_Ledger_drawSamples 49 = .ok (.iadd, 1) := by decide +kernel
theorem d_Ledger_drawSamples_50 : decode b_Ledger_drawSamples 50 = .ok (.iastore, 1) := by decide +kernel
theorem d_Ledger_drawSamples_51 : decode b_Ledger_drawSamples 51 = .ok (.iload_n 3, 1) := by decide +kernel
theorem d_Ledger_drawSamples_52 : decode b_Ledger_drawSamples 52 = .ok (.ireturn, 1) := by decide +kernel
def f_Ledger_drawSamples (x0 : Nat) (x1 : Int32) (x2 : Int32) (M : fm_M) : Option (Int32 × fm_M) :=
  (gr x0 4 5).bind fun q101 =>
  (ai q101 x1 M).bind fun x103 =>
  (si q101 x1 (x103 - x2) M).bind fun M105 =>
  (gr x0 4 5).bind fun q107 =>
  (ai q107 x1 M105).bind fun x109 =>
  if x109 ≤ 0 then
    (gr x0 4 5).bind fun q112 =>
    (ai q112 x1 M105).bind fun x114 =>
    (gi x0 4 11 M105).bind fun x116 =>
    if x116 = 0 then none else
    (gr x0 4 5).bind fun q119 =>
    (ai q119 x1 M105).bind fun x121 =>
    (gi x0 4 11 M105).bind fun x123 =>
    (si q119 x1 (x121 + ((((-x114) / x116) + 1) * x123)) M105).bind fun M125 =>
    some ((((-x114) / x116) + 1), M125)
  else
    some (0, M105)
set_option maxHeartbeats 4000000 in
set_option maxRecDepth 100000 in
theorem c_Ledger_drawSamples (l : Launch) (G : fm_G) (x0 : Nat) (x1 : Int32) (x2 : Int32) {v : Int32} {M M' : fm_M} (h : f_Ledger_drawSamples x0 x1 x2 M = some (v, M')) : kMet l y_Ledger_drawSamples b_Ledger_drawSamples 4 (some .int) rm_Ledger_drawSamples G M [.ref (G.2.2 + x0), .int x1, .int x2] (some (.int v)) M' := by
  refine r_met (by decide) rfl (Nat.le_of_ble_eq_true rfl) (fun p e s m args below meth c C0 hP ls hl => ?_)
  have hx := C0.1
  have hb := C0.2.1
  have hl : lv_has ls 4 [(0, .ref (G.2.2 + x0)), (1, .int x1), (2, .int x2)] := hl
  have hS : va_S (fm_A G.2.2) s.heap s.heap [] := va_S.rf
  unfold f_Ledger_drawSamples at h
  refine lv_aload_n hx hb d_Ledger_drawSamples_0 rfl (lv_at hl 0 rfl) ?_
  obtain ⟨q101, e102, h⟩ := ob h
  refine k_gr C0 F_Ledger_33 hP e102 d_Ledger_drawSamples_1 ?_
  refine lv_iload_n hx hb d_Ledger_drawSamples_4 rfl (lv_at hl 1 rfl) ?_
  refine lv_dup2_11 hx hb d_Ledger_drawSamples_5 rfl rfl ?_
  obtain ⟨x103, e104, h⟩ := ob h
  refine k_ai C0 hP e104 d_Ledger_drawSamples_6 ?_
  refine lv_iload_n hx hb d_Ledger_drawSamples_7 rfl (lv_at hl 2 rfl) ?_
  refine lv_isub hx hb d_Ledger_drawSamples_8 ?_
  obtain ⟨M105, e106, h⟩ := ob h
  refine k_si C0 hP hS e106 d_Ledger_drawSamples_9 (fun H locs hP hS => ?_)
  refine lv_aload_n hx hb d_Ledger_drawSamples_10 rfl (lv_at hl 0 rfl) ?_
  obtain ⟨q107, e108, h⟩ := ob h
  refine k_gr C0 F_Ledger_33 hP e108 d_Ledger_drawSamples_11 ?_
  refine lv_iload_n hx hb d_Ledger_drawSamples_14 rfl (lv_at hl 1 rfl) ?_
  obtain ⟨x109, e110, h⟩ := ob h
  refine k_ai C0 hP e110 d_Ledger_drawSamples_15 ?_
  refine lv_if_le (tgt := 21) hx hb d_Ledger_drawSamples_16 (by decide) (fun c111 => ?_) (fun c111 => ?_)
  · rw [if_pos c111] at h
    refine lv_aload_n hx hb d_Ledger_drawSamples_21 rfl (lv_at hl 0 rfl) ?_
    obtain ⟨q112, e113, h⟩ := ob h
    refine k_gr C0 F_Ledger_33 hP e113 d_Ledger_drawSamples_22 ?_
    refine lv_iload_n hx hb d_Ledger_drawSamples_25 rfl (lv_at hl 1 rfl) ?_
    obtain ⟨x114, e115, h⟩ := ob h
    refine k_ai C0 hP e115 d_Ledger_drawSamples_26 ?_
    refine lv_ineg hx hb d_Ledger_drawSamples_27 ?_
    refine lv_aload_n hx hb d_Ledger_drawSamples_28 rfl (lv_at hl 0 rfl) ?_
    obtain ⟨x116, e117, h⟩ := ob h
    refine k_gi C0 F_Ledger_52 ik_4_11 hP e117 d_Ledger_drawSamples_29 ?_
    by_cases c118 : x116 = 0
    · rw [if_pos c118] at h; cases h
    rw [if_neg c118] at h
    refine lv_idiv hx hb d_Ledger_drawSamples_32 c118 ?_
    refine lv_iconst (v := 1) hx hb d_Ledger_drawSamples_33 ic_1 ?_
    refine lv_iadd hx hb d_Ledger_drawSamples_34 ?_
    refine lv_istore_n (lv' := [(3, .int (((-x114) / x116) + 1)), (0, .ref (G.2.2 + x0)), (1, .int x1), (2, .int x2)]) hx hb d_Ledger_drawSamples_35 rfl hl (by decide) rfl (fun ls hl => ?_)
    refine lv_aload_n hx hb d_Ledger_drawSamples_36 rfl (lv_at hl 1 rfl) ?_
    obtain ⟨q119, e120, h⟩ := ob h
    refine k_gr C0 F_Ledger_33 hP e120 d_Ledger_drawSamples_37 ?_
    refine lv_iload_n hx hb d_Ledger_drawSamples_40 rfl (lv_at hl 2 rfl) ?_
    refine lv_dup2_11 hx hb d_Ledger_drawSamples_41 rfl rfl ?_
    obtain ⟨x121, e122, h⟩ := ob h
    refine k_ai C0 hP e122 d_Ledger_drawSamples_42 ?_
    refine lv_iload_n hx hb d_Ledger_drawSamples_43 rfl (lv_at hl 0 rfl) ?_
    refine lv_aload_n hx hb d_Ledger_drawSamples_44 rfl (lv_at hl 1 rfl) ?_
    obtain ⟨x123, e124, h⟩ := ob h
    refine k_gi C0 F_Ledger_52 ik_4_11 hP e124 d_Ledger_drawSamples_45 ?_
    refine lv_imul hx hb d_Ledger_drawSamples_48 ?_
    refine lv_iadd hx hb d_Ledger_drawSamples_49 ?_
    obtain ⟨M125, e126, h⟩ := ob h
    refine k_si C0 hP hS e126 d_Ledger_drawSamples_50 (fun H locs hP hS => ?_)
    refine lv_iload_n hx hb d_Ledger_drawSamples_51 rfl (lv_at hl 0 rfl) ?_
    cases h
    exact r_iret C0 hP hS d_Ledger_drawSamples_52
  · rw [if_neg c111] at h
    refine lv_iconst (v := 0) hx hb d_Ledger_drawSamples_19 ic_0 ?_
    cases h
    exact r_iret C0 hP hS d_Ledger_drawSamples_20
/-! AllocationProfiler$Ledger.entryOf -/
def rm_Ledger_entryOf : Room := { frames := 0, cells := 0, slots := 0, locals := 0 }
theorem d_Ledger_entryOf_0 : decode b_Ledger_entryOf 0 = .ok (.iconst 0, 1) := by decide +kernel
theorem d_Ledger_entryOf_1 : decode b_Ledger_entryOf 1 = .ok (.istore_n 3, 1) := by decide +kernel
theorem d_Ledger_entryOf_2 : decode b_Ledger_entryOf 2 = .ok (.iload_n 3, 1) := by decide +kernel
theorem d_Ledger_entryOf_3 : decode b_Ledger_entryOf 3 = .ok (.aload_n 0, 1) := by decide +kernel
theorem d_Ledger_entryOf_4 : decode b_Ledger_entryOf 4 = .ok (.getfield 49, 3) := by decide +kernel
theorem d_Ledger_entryOf_7 : decode b_Ledger_entryOf 7 = .ok (.if_icmp .ge 31, 3) := by decide +kernel
theorem d_Ledger_entryOf_10 : decode b_Ledger_entryOf 10 = .ok (.aload_n 0, 1) := by decide +kernel
theorem d_Ledger_entryOf_11 : decode b_Ledger_entryOf 11 = .ok (.getfield 36, 3) := by decide +kernel
theorem d_Ledger_entryOf_14 : decode b_Ledger_entryOf 14 = .ok (.iload_n 3, 1) := by decide +kernel
theorem d_Ledger_entryOf_15 : decode b_Ledger_entryOf 15 = .ok (.iaload, 1) := by decide +kernel
theorem d_Ledger_entryOf_16 : decode b_Ledger_entryOf 16 = .ok (.iload_n 1, 1) := by decide +kernel
theorem d_Ledger_entryOf_17 : decode b_Ledger_entryOf 17 = .ok (.if_icmp .ne 15, 3) := by decide +kernel
theorem d_Ledger_entryOf_20 : decode b_Ledger_entryOf 20 = .ok (.aload_n 0, 1) := by decide +kernel
theorem d_Ledger_entryOf_21 : decode b_Ledger_entryOf 21 = .ok (.getfield 39, 3) := by decide +kernel
theorem d_Ledger_entryOf_24 : decode b_Ledger_entryOf 24 = .ok (.iload_n 3, 1) := by decide +kernel
theorem d_Ledger_entryOf_25 : decode b_Ledger_entryOf 25 = .ok (.iaload, 1) := by decide +kernel
theorem d_Ledger_entryOf_26 : decode b_Ledger_entryOf 26 = .ok (.iload_n 2, 1) := by decide +kernel
theorem d_Ledger_entryOf_27 : decode b_Ledger_entryOf 27 = .ok (.if_icmp .ne 5, 3) := by decide +kernel
theorem d_Ledger_entryOf_30 : decode b_Ledger_entryOf 30 = .ok (.iload_n 3, 1) := by decide +kernel
theorem d_Ledger_entryOf_31 : decode b_Ledger_entryOf 31 = .ok (.ireturn, 1) := by decide +kernel
theorem d_Ledger_entryOf_32 : decode b_Ledger_entryOf 32 = .ok (.iinc 3 1, 3) := by decide +kernel
theorem d_Ledger_entryOf_35 : decode b_Ledger_entryOf 35 = .ok (.goto (-33), 3) := by decide +kernel
theorem d_Ledger_entryOf_38 : decode b_Ledger_entryOf 38 = .ok (.aload_n 0, 1) := by decide +kernel
theorem d_Ledger_entryOf_39 : decode b_Ledger_entryOf 39 = .ok (.getfield 49, 3) := by decide +kernel
theorem d_Ledger_entryOf_42 : decode b_Ledger_entryOf 42 = .ok (.ireturn, 1) := by decide +kernel
def j_Ledger_entryOf_32 (k2 : Nat → Int32 → Int32 → Int32 → fm_M → Option (Int32 × fm_M)) (x0 : Nat) (x1 : Int32) (x2 : Int32) (x3 : Int32) (M : fm_M) : Option (Int32 × fm_M) :=
  k2 x0 x1 x2 (x3 + 1) M
def h_Ledger_entryOf_2 : Nat → Nat → Int32 → Int32 → Int32 → fm_M → Option (Int32 × fm_M)
  | 0, _, _, _, _, _ => none
  | n + 1, x0, x1, x2, x3, M =>
    (gi x0 4 10 M).bind fun x101 =>
    if x101 ≤ x3 then
      (gi x0 4 10 M).bind fun x104 =>
      some (x104, M)
    else
      (gr x0 4 6).bind fun q106 =>
      (ai q106 x3 M).bind fun x108 =>
      if x108 = x1 then
        (gr x0 4 7).bind fun q111 =>
        (ai q111 x3 M).bind fun x113 =>
        if x113 = x2 then
          some (x3, M)
        else
          j_Ledger_entryOf_32 (h_Ledger_entryOf_2 n) x0 x1 x2 x3 M
      else
        j_Ledger_entryOf_32 (h_Ledger_entryOf_2 n) x0 x1 x2 x3 M
def f_Ledger_entryOf (x0 : Nat) (x1 : Int32) (x2 : Int32) (M : fm_M) : Option (Int32 × fm_M) :=
  h_Ledger_entryOf_2 100000 x0 x1 x2 0 M
set_option maxHeartbeats 4000000 in
set_option maxRecDepth 100000 in
theorem w_Ledger_entryOf_32 {p : Program} {l : Launch} {e : Env} {s : State} {m : MethodId} {args : Array Value} {below : List Frame} {meth : Method} {c : Code} {G : fm_G} (C0 : fm_C p s m args meth c G (.code y_Ledger_entryOf b_Ledger_entryOf 4 (some .int)) "AllocationProfiler$Ledger" b_Ledger_entryOf 4 (some .int)) {v : Int32} {M' : fm_M} (k2 : Nat → Int32 → Int32 → Int32 → fm_M → Option (Int32 × fm_M)) (hk2 : ∀ (x0 : Nat) (x1 : Int32) (x2 : Int32) (x3 : Int32) {M : fm_M} {H : Heap} {locs : List Loc}, kP G M H → kS G s H locs → ∀ {ls : Array Slot}, lv_has ls 4 [(0, .ref (G.2.2 + x0)), (1, .int x1), (2, .int x2), (3, .int x3)] → k2 x0 x1 x2 x3 M = some (v, M') → W p l e rm_Ledger_entryOf s m args below meth c H locs 0 0 (MQ below (fm_Q G 212 shF (some (.int v)) M') args s 0 0 (fm_A G.2.2)) (F0 m 2 ls [])) (x0 : Nat) (x1 : Int32) (x2 : Int32) (x3 : Int32) {M : fm_M} {H : Heap} {locs : List Loc} (hP : kP G M H) (hS : kS G s H locs) {ls : Array Slot} (hl : lv_has ls 4 [(0, .ref (G.2.2 + x0)), (1, .int x1), (2, .int x2), (3, .int x3)]) (h : j_Ledger_entryOf_32 k2 x0 x1 x2 x3 M = some (v, M')) : W p l e rm_Ledger_entryOf s m args below meth c H locs 0 0 (MQ below (fm_Q G 212 shF (some (.int v)) M') args s 0 0 (fm_A G.2.2)) (F0 m 32 ls []) := by
  have hx := C0.1
  have hb := C0.2.1
  unfold j_Ledger_entryOf_32 at h
  refine lv_iinc (v := (x3 + 1)) (lv' := [(3, .int (x3 + 1)), (0, .ref (G.2.2 + x0)), (1, .int x1), (2, .int x2)]) hx hb d_Ledger_entryOf_32 hl (k := 3) rfl (congrArg (fun z => x3 + z) ic_1) (by decide) rfl (fun ls hl => ?_)
  refine lv_goto (tgt := 2) hx hb d_Ledger_entryOf_35 (by decide) ?_
  exact hk2 x0 x1 x2 (x3 + 1) hP hS (lv_sub hl [1, 2, 3, 0] rfl) h
set_option maxHeartbeats 4000000 in
set_option maxRecDepth 100000 in
theorem w_Ledger_entryOf_2 {p : Program} {l : Launch} {e : Env} {s : State} {m : MethodId} {args : Array Value} {below : List Frame} {meth : Method} {c : Code} {G : fm_G} (C0 : fm_C p s m args meth c G (.code y_Ledger_entryOf b_Ledger_entryOf 4 (some .int)) "AllocationProfiler$Ledger" b_Ledger_entryOf 4 (some .int)) {v : Int32} {M' : fm_M} : ∀ (n : Nat) (x0 : Nat) (x1 : Int32) (x2 : Int32) (x3 : Int32) {M : fm_M} {H : Heap} {locs : List Loc}, kP G M H → kS G s H locs → ∀ {ls : Array Slot}, lv_has ls 4 [(0, .ref (G.2.2 + x0)), (1, .int x1), (2, .int x2), (3, .int x3)] → h_Ledger_entryOf_2 n x0 x1 x2 x3 M = some (v, M') → W p l e rm_Ledger_entryOf s m args below meth c H locs 0 0 (MQ below (fm_Q G 212 shF (some (.int v)) M') args s 0 0 (fm_A G.2.2)) (F0 m 2 ls []) := by
  have hx := C0.1
  have hb := C0.2.1
  intro n
  induction n with
  | zero =>
    intro x0 x1 x2 x3 M H locs hP hS ls hl h
    exact nomatch h
  | succ n ih =>
    intro x0 x1 x2 x3 M H locs hP hS ls hl h
    have h : ((gi x0 4 10 M).bind fun x101 =>
      if x101 ≤ x3 then
        (gi x0 4 10 M).bind fun x104 =>
        some (x104, M)
      else
        (gr x0 4 6).bind fun q106 =>
        (ai q106 x3 M).bind fun x108 =>
        if x108 = x1 then
          (gr x0 4 7).bind fun q111 =>
          (ai q111 x3 M).bind fun x113 =>
          if x113 = x2 then
            some (x3, M)
          else
            j_Ledger_entryOf_32 (h_Ledger_entryOf_2 n) x0 x1 x2 x3 M
        else
          j_Ledger_entryOf_32 (h_Ledger_entryOf_2 n) x0 x1 x2 x3 M) = some (v, M') := h
    refine lv_iload_n hx hb d_Ledger_entryOf_2 rfl (lv_at hl 3 rfl) ?_
    refine lv_aload_n hx hb d_Ledger_entryOf_3 rfl (lv_at hl 0 rfl) ?_
    obtain ⟨x101, e102, h⟩ := ob h
    refine k_gi C0 F_Ledger_49 ik_4_10 hP e102 d_Ledger_entryOf_4 ?_
    refine lv_icmp_ge (tgt := 38) hx hb d_Ledger_entryOf_7 (by decide) (fun c103 => ?_) (fun c103 => ?_)
    · rw [if_pos c103] at h
      refine lv_aload_n hx hb d_Ledger_entryOf_38 rfl (lv_at hl 0 rfl) ?_
      obtain ⟨x104, e105, h⟩ := ob h
      refine k_gi C0 F_Ledger_49 ik_4_10 hP e105 d_Ledger_entryOf_39 ?_
      cases h
      exact r_iret C0 hP hS d_Ledger_entryOf_42
    · rw [if_neg c103] at h
      refine lv_aload_n hx hb d_Ledger_entryOf_10 rfl (lv_at hl 0 rfl) ?_
      obtain ⟨q106, e107, h⟩ := ob h
      refine k_gr C0 F_Ledger_36 hP e107 d_Ledger_entryOf_11 ?_
      refine lv_iload_n hx hb d_Ledger_entryOf_14 rfl (lv_at hl 3 rfl) ?_
      obtain ⟨x108, e109, h⟩ := ob h
      refine k_ai C0 hP e109 d_Ledger_entryOf_15 ?_
      refine lv_iload_n hx hb d_Ledger_entryOf_16 rfl (lv_at hl 1 rfl) ?_
      refine lv_icmp_ne (tgt := 32) hx hb d_Ledger_entryOf_17 (by decide) (fun c110 => ?_) (fun c110 => ?_)
      · rw [if_neg c110] at h
        exact w_Ledger_entryOf_32 C0 (h_Ledger_entryOf_2 n) ih x0 x1 x2 x3 hP hS (lv_sub hl [0, 1, 2, 3] rfl) h
      · rw [if_pos c110] at h
        refine lv_aload_n hx hb d_Ledger_entryOf_20 rfl (lv_at hl 0 rfl) ?_
        obtain ⟨q111, e112, h⟩ := ob h
        refine k_gr C0 F_Ledger_39 hP e112 d_Ledger_entryOf_21 ?_
        refine lv_iload_n hx hb d_Ledger_entryOf_24 rfl (lv_at hl 3 rfl) ?_
        obtain ⟨x113, e114, h⟩ := ob h
        refine k_ai C0 hP e114 d_Ledger_entryOf_25 ?_
        refine lv_iload_n hx hb d_Ledger_entryOf_26 rfl (lv_at hl 2 rfl) ?_
        refine lv_icmp_ne (tgt := 32) hx hb d_Ledger_entryOf_27 (by decide) (fun c115 => ?_) (fun c115 => ?_)
        · rw [if_neg c115] at h
          exact w_Ledger_entryOf_32 C0 (h_Ledger_entryOf_2 n) ih x0 x1 x2 x3 hP hS (lv_sub hl [0, 1, 2, 3] rfl) h
        · rw [if_pos c115] at h
          refine lv_iload_n hx hb d_Ledger_entryOf_30 rfl (lv_at hl 3 rfl) ?_
          cases h
          exact r_iret C0 hP hS d_Ledger_entryOf_31
set_option maxHeartbeats 4000000 in
set_option maxRecDepth 100000 in
theorem c_Ledger_entryOf (l : Launch) (G : fm_G) (x0 : Nat) (x1 : Int32) (x2 : Int32) {v : Int32} {M M' : fm_M} (h : f_Ledger_entryOf x0 x1 x2 M = some (v, M')) : kMet l y_Ledger_entryOf b_Ledger_entryOf 4 (some .int) rm_Ledger_entryOf G M [.ref (G.2.2 + x0), .int x1, .int x2] (some (.int v)) M' := by
  refine r_met (by decide) rfl (Nat.le_of_ble_eq_true rfl) (fun p e s m args below meth c C0 hP ls hl => ?_)
  have hx := C0.1
  have hb := C0.2.1
  have hl : lv_has ls 4 [(0, .ref (G.2.2 + x0)), (1, .int x1), (2, .int x2)] := hl
  have hS : va_S (fm_A G.2.2) s.heap s.heap [] := va_S.rf
  unfold f_Ledger_entryOf at h
  refine lv_iconst (v := 0) hx hb d_Ledger_entryOf_0 ic_0 ?_
  refine lv_istore_n (lv' := [(3, .int 0), (0, .ref (G.2.2 + x0)), (1, .int x1), (2, .int x2)]) hx hb d_Ledger_entryOf_1 rfl hl (by decide) rfl (fun ls hl => ?_)
  exact w_Ledger_entryOf_2 C0 100000 x0 x1 x2 0 hP hS (lv_sub hl [1, 2, 3, 0] rfl) h
/-! AllocationProfiler$Ledger.countInEntry -/
def rm_Ledger_countInEntry : Room := { frames := 1, cells := 0, slots := 0, locals := 23 }
theorem d_Ledger_countInEntry_0 : decode b_Ledger_countInEntry 0 = .ok (.aload_n 0, 1) := by decide +kernel
theorem d_Ledger_countInEntry_1 : decode b_Ledger_countInEntry 1 = .ok (.iload_n 1, 1) := by decide +kernel
theorem d_Ledger_countInEntry_2 : decode b_Ledger_countInEntry 2 = .ok (.iload_n 2, 1) := by decide +kernel
theorem d_Ledger_countInEntry_3 : decode b_Ledger_countInEntry 3 = .ok (.invokevirtual 82, 3) := by decide +kernel
theorem d_Ledger_countInEntry_6 : decode b_Ledger_countInEntry 6 = .ok (.istore 4, 2) := by decide +kernel
theorem d_Ledger_countInEntry_8 : decode b_Ledger_countInEntry 8 = .ok (.iload 4, 2) := by decide +kernel
theorem d_Ledger_countInEntry_10 : decode b_Ledger_countInEntry 10 = .ok (.bipush 16, 2) := by decide +kernel
theorem d_Ledger_countInEntry_12 : decode b_Ledger_countInEntry 12 = .ok (.if_icmp .ne 4, 3) := by decide +kernel
theorem d_Ledger_countInEntry_15 : decode b_Ledger_countInEntry 15 = .ok (.return_, 1) := by decide +kernel
theorem d_Ledger_countInEntry_16 : decode b_Ledger_countInEntry 16 = .ok (.iload 4, 2) := by decide +kernel
theorem d_Ledger_countInEntry_18 : decode b_Ledger_countInEntry 18 = .ok (.aload_n 0, 1) := by decide +kernel
theorem d_Ledger_countInEntry_19 : decode b_Ledger_countInEntry 19 = .ok (.getfield 49, 3) := by decide +kernel
theorem d_Ledger_countInEntry_22 : decode b_Ledger_countInEntry 22 = .ok (.if_icmp .ne 29, 3) := by decide +kernel
theorem d_Ledger_countInEntry_25 : decode b_Ledger_countInEntry 25 = .ok (.aload_n 0, 1) := by decide +kernel
theorem d_Ledger_countInEntry_26 : decode b_Ledger_countInEntry 26 = .ok (.getfield 36, 3) := by decide +kernel
theorem d_Ledger_countInEntry_29 : decode b_Ledger_countInEntry 29 = .ok (.iload 4, 2) := by decide +kernel
theorem d_Ledger_countInEntry_31 : decode b_Ledger_countInEntry 31 = .ok (.iload_n 1, 1) := by decide +kernel
theorem d_Ledger_countInEntry_32 : decode b_Ledger_countInEntry 32 = .ok (.iastore, 1) := by decide +kernel
theorem d_Ledger_countInEntry_33 : decode b_Ledger_countInEntry 33 = .ok (.aload_n 0, 1) := by decide +kernel
theorem d_Ledger_countInEntry_34 : decode b_Ledger_countInEntry 34 = .ok (.getfield 39, 3) := by decide +kernel
theorem d_Ledger_countInEntry_37 : decode b_Ledger_countInEntry 37 = .ok (.iload 4, 2) := by decide +kernel
theorem d_Ledger_countInEntry_39 : decode b_Ledger_countInEntry 39 = .ok (.iload_n 2, 1) := by decide +kernel
theorem d_Ledger_countInEntry_40 : decode b_Ledger_countInEntry 40 = .ok (.iastore, 1) := by decide +kernel
theorem d_Ledger_countInEntry_41 : decode b_Ledger_countInEntry 41 = .ok (.aload_n 0, 1) := by decide +kernel
theorem d_Ledger_countInEntry_42 : decode b_Ledger_countInEntry 42 = .ok (.dup, 1) := by decide +kernel
theorem d_Ledger_countInEntry_43 : decode b_Ledger_countInEntry 43 = .ok (.getfield 49, 3) := by decide +kernel
theorem d_Ledger_countInEntry_46 : decode b_Ledger_countInEntry 46 = .ok (.iconst 1, 1) := by decide +kernel
theorem d_Ledger_countInEntry_47 : decode b_Ledger_countInEntry 47 = .ok (.iadd, 1) := by decide +kernel
theorem d_Ledger_countInEntry_48 : decode b_Ledger_countInEntry 48 = .ok (.putfield 49, 3) := by decide +kernel
theorem d_Ledger_countInEntry_51 : decode b_Ledger_countInEntry 51 = .ok (.aload_n 0, 1) := by decide +kernel
theorem d_Ledger_countInEntry_52 : decode b_Ledger_countInEntry 52 = .ok (.getfield 42, 3) := by decide +kernel
theorem d_Ledger_countInEntry_55 : decode b_Ledger_countInEntry 55 = .ok (.iload 4, 2) := by decide +kernel
theorem d_Ledger_countInEntry_57 : decode b_Ledger_countInEntry 57 = .ok (.dup2, 1) := by decide +kernel
theorem d_Ledger_countInEntry_58 : decode b_Ledger_countInEntry 58 = .ok (.iaload, 1) := by decide +kernel
theorem d_Ledger_countInEntry_59 : decode b_Ledger_countInEntry 59 = .ok (.iload_n 3, 1) := by decide +kernel
theorem d_Ledger_countInEntry_60 : decode b_Ledger_countInEntry 60 = .ok (.iadd, 1) := by decide +kernel
theorem d_Ledger_countInEntry_61 : decode b_Ledger_countInEntry 61 = .ok (.iastore, 1) := by decide +kernel
theorem d_Ledger_countInEntry_62 : decode b_Ledger_countInEntry 62 = .ok (.return_, 1) := by decide +kernel
def j_Ledger_countInEntry_51 (x0 : Nat) (x3 : Int32) (x4 : Int32) (M : fm_M) : Option fm_M :=
  (gr x0 4 8).bind fun q101 =>
  (ai q101 x4 M).bind fun x103 =>
  (si q101 x4 (x103 + x3) M).bind fun M105 =>
  some M105
def f_Ledger_countInEntry (x0 : Nat) (x1 : Int32) (x2 : Int32) (x3 : Int32) (M : fm_M) : Option fm_M :=
  (ck x0 4).bind fun _ =>
  bd (f_Ledger_entryOf x0 x1 x2 M) fun x110 M108 =>
  if x110 = 16 then
    some M108
  else
    (gi x0 4 10 M108).bind fun x112 =>
    if x110 = x112 then
      (gr x0 4 6).bind fun q115 =>
      (si q115 x110 x1 M108).bind fun M117 =>
      (gr x0 4 7).bind fun q119 =>
      (si q119 x110 x2 M117).bind fun M121 =>
      (gi x0 4 10 M121).bind fun x123 =>
      (pi x0 4 10 (x123 + 1) M121).bind fun M125 =>
      j_Ledger_countInEntry_51 x0 x3 x110 M125
    else
      j_Ledger_countInEntry_51 x0 x3 x110 M108
set_option maxHeartbeats 4000000 in
set_option maxRecDepth 100000 in
theorem w_Ledger_countInEntry_51 {p : Program} {l : Launch} {e : Env} {s : State} {m : MethodId} {args : Array Value} {below : List Frame} {meth : Method} {c : Code} {G : fm_G} (C0 : fm_C p s m args meth c G (.code y_Ledger_countInEntry b_Ledger_countInEntry 5 none) "AllocationProfiler$Ledger" b_Ledger_countInEntry 5 none) {M' : fm_M} (x0 : Nat) (x3 : Int32) (x4 : Int32) {M : fm_M} {H : Heap} {locs : List Loc} (hP : kP G M H) (hS : kS G s H locs) {ls : Array Slot} (hl : lv_has ls 5 [(0, .ref (G.2.2 + x0)), (3, .int x3), (4, .int x4)]) (h : j_Ledger_countInEntry_51 x0 x3 x4 M = some M') : W p l e rm_Ledger_countInEntry s m args below meth c H locs 0 0 (MQ below (fm_Q G 212 shF none M') args s 0 0 (fm_A G.2.2)) (F0 m 51 ls []) := by
  have hx := C0.1
  have hb := C0.2.1
  unfold j_Ledger_countInEntry_51 at h
  refine lv_aload_n hx hb d_Ledger_countInEntry_51 rfl (lv_at hl 0 rfl) ?_
  obtain ⟨q101, e102, h⟩ := ob h
  refine k_gr C0 F_Ledger_42 hP e102 d_Ledger_countInEntry_52 ?_
  refine lv_iload hx hb d_Ledger_countInEntry_55 (lv_at hl 2 rfl) ?_
  refine lv_dup2_11 hx hb d_Ledger_countInEntry_57 rfl rfl ?_
  obtain ⟨x103, e104, h⟩ := ob h
  refine k_ai C0 hP e104 d_Ledger_countInEntry_58 ?_
  refine lv_iload_n hx hb d_Ledger_countInEntry_59 rfl (lv_at hl 1 rfl) ?_
  refine lv_iadd hx hb d_Ledger_countInEntry_60 ?_
  obtain ⟨M105, e106, h⟩ := ob h
  refine k_si C0 hP hS e106 d_Ledger_countInEntry_61 (fun H locs hP hS => ?_)
  cases h
  exact r_vret C0 hP hS d_Ledger_countInEntry_62
set_option maxHeartbeats 4000000 in
set_option maxRecDepth 100000 in
theorem c_Ledger_countInEntry (l : Launch) (G : fm_G) (x0 : Nat) (x1 : Int32) (x2 : Int32) (x3 : Int32) {M M' : fm_M} (h : f_Ledger_countInEntry x0 x1 x2 x3 M = some M') : kMet l y_Ledger_countInEntry b_Ledger_countInEntry 5 none rm_Ledger_countInEntry G M [.ref (G.2.2 + x0), .int x1, .int x2, .int x3] none M' := by
  refine r_met (by decide) rfl (Nat.le_of_ble_eq_true rfl) (fun p e s m args below meth c C0 hP ls hl => ?_)
  have hx := C0.1
  have hb := C0.2.1
  have hl : lv_has ls 5 [(0, .ref (G.2.2 + x0)), (1, .int x1), (2, .int x2), (3, .int x3)] := hl
  have hS : va_S (fm_A G.2.2) s.heap s.heap [] := va_S.rf
  unfold f_Ledger_countInEntry at h
  refine lv_aload_n hx hb d_Ledger_countInEntry_0 rfl (lv_at hl 0 rfl) ?_
  refine lv_iload_n hx hb d_Ledger_countInEntry_1 rfl (lv_at hl 1 rfl) ?_
  refine lv_iload_n hx hb d_Ledger_countInEntry_2 rfl (lv_at hl 2 rfl) ?_
  obtain ⟨_, e107, h⟩ := ob h
  obtain ⟨x110, M108, e109, h⟩ := ob2 h
  refine k_cV C0 L_Ledger_82 (As := [.int x1, .int x2]) (c_Ledger_entryOf l G x0 x1 x2 e109) ⟨rfl, rfl⟩ ⟨Nat.le_of_ble_eq_true rfl, Nat.le_of_ble_eq_true rfl⟩ hP hS (ck_of e107) ly_Ledger rfl hl.1 rfl (Nat.le_of_ble_eq_true rfl) d_Ledger_countInEntry_3 ⟨Nat.zero_le _, Nat.zero_le _⟩ (fun H locs hP hS => ?_)
  refine lv_istore (lv' := [(4, .int x110), (0, .ref (G.2.2 + x0)), (1, .int x1), (2, .int x2), (3, .int x3)]) hx hb d_Ledger_countInEntry_6 hl (by decide) rfl (fun ls hl => ?_)
  refine lv_iload hx hb d_Ledger_countInEntry_8 (lv_at hl 0 rfl) ?_
  refine lv_bipush (v := 16) hx hb d_Ledger_countInEntry_10 bp_16 ?_
  refine lv_icmp_ne (tgt := 16) hx hb d_Ledger_countInEntry_12 (by decide) (fun c111 => ?_) (fun c111 => ?_)
  · rw [if_neg c111] at h
    refine lv_iload hx hb d_Ledger_countInEntry_16 (lv_at hl 0 rfl) ?_
    refine lv_aload_n hx hb d_Ledger_countInEntry_18 rfl (lv_at hl 1 rfl) ?_
    obtain ⟨x112, e113, h⟩ := ob h
    refine k_gi C0 F_Ledger_49 ik_4_10 hP e113 d_Ledger_countInEntry_19 ?_
    refine lv_icmp_ne (tgt := 51) hx hb d_Ledger_countInEntry_22 (by decide) (fun c114 => ?_) (fun c114 => ?_)
    · rw [if_neg c114] at h
      exact w_Ledger_countInEntry_51 C0 x0 x3 x110 hP hS (lv_sub hl [1, 4, 0] rfl) h
    · rw [if_pos c114] at h
      refine lv_aload_n hx hb d_Ledger_countInEntry_25 rfl (lv_at hl 1 rfl) ?_
      obtain ⟨q115, e116, h⟩ := ob h
      refine k_gr C0 F_Ledger_36 hP e116 d_Ledger_countInEntry_26 ?_
      refine lv_iload hx hb d_Ledger_countInEntry_29 (lv_at hl 0 rfl) ?_
      refine lv_iload_n hx hb d_Ledger_countInEntry_31 rfl (lv_at hl 2 rfl) ?_
      obtain ⟨M117, e118, h⟩ := ob h
      refine k_si C0 hP hS e118 d_Ledger_countInEntry_32 (fun H locs hP hS => ?_)
      refine lv_aload_n hx hb d_Ledger_countInEntry_33 rfl (lv_at hl 1 rfl) ?_
      obtain ⟨q119, e120, h⟩ := ob h
      refine k_gr C0 F_Ledger_39 hP e120 d_Ledger_countInEntry_34 ?_
      refine lv_iload hx hb d_Ledger_countInEntry_37 (lv_at hl 0 rfl) ?_
      refine lv_iload_n hx hb d_Ledger_countInEntry_39 rfl (lv_at hl 3 rfl) ?_
      obtain ⟨M121, e122, h⟩ := ob h
      refine k_si C0 hP hS e122 d_Ledger_countInEntry_40 (fun H locs hP hS => ?_)
      refine lv_aload_n hx hb d_Ledger_countInEntry_41 rfl (lv_at hl 1 rfl) ?_
      refine lv_dup hx hb d_Ledger_countInEntry_42 rfl ?_
      obtain ⟨x123, e124, h⟩ := ob h
      refine k_gi C0 F_Ledger_49 ik_4_10 hP e124 d_Ledger_countInEntry_43 ?_
      refine lv_iconst (v := 1) hx hb d_Ledger_countInEntry_46 ic_1 ?_
      refine lv_iadd hx hb d_Ledger_countInEntry_47 ?_
      obtain ⟨M125, e126, h⟩ := ob h
      refine k_pi C0 F_Ledger_49p ik_4_10 hP hS e126 d_Ledger_countInEntry_48 (fun H locs hP hS => ?_)
      exact w_Ledger_countInEntry_51 C0 x0 x3 x110 hP hS (lv_sub hl [1, 4, 0] rfl) h
  · rw [if_pos c111] at h
    cases h
    exact r_vret C0 hP hS d_Ledger_countInEntry_15
/-! AllocationProfiler$Ledger.report -/
def rm_Ledger_report : Room := { frames := 2, cells := 0, slots := 0, locals := 47 }
theorem d_Ledger_report_0 : decode b_Ledger_report 0 = .ok (.iload_n 1, 1) := by decide +kernel
theorem d_Ledger_report_1 : decode b_Ledger_report 1 = .ok (.ifCond .lt 11, 3) := by decide +kernel
theorem d_Ledger_report_4 : decode b_Ledger_report 4 = .ok (.iload_n 1, 1) := by decide +kernel
theorem d_Ledger_report_5 : decode b_Ledger_report 5 = .ok (.aload_n 0, 1) := by decide +kernel
theorem d_Ledger_report_6 : decode b_Ledger_report 6 = .ok (.getfield 45, 3) := by decide +kernel
theorem d_Ledger_report_9 : decode b_Ledger_report 9 = .ok (.if_icmp .lt 4, 3) := by decide +kernel
theorem d_Ledger_report_12 : decode b_Ledger_report 12 = .ok (.return_, 1) := by decide +kernel
theorem d_Ledger_report_13 : decode b_Ledger_report 13 = .ok (.aload_n 0, 1) := by decide +kernel
theorem d_Ledger_report_14 : decode b_Ledger_report 14 = .ok (.getfield 11, 3) := by decide +kernel
theorem d_Ledger_report_17 : decode b_Ledger_report 17 = .ok (.iload_n 2, 1) := by decide +kernel
theorem d_Ledger_report_18 : decode b_Ledger_report 18 = .ok (.aaload, 1) := by decide +kernel
theorem d_Ledger_report_19 : decode b_Ledger_report 19 = .ok (.iload_n 1, 1) := by decide +kernel
theorem d_Ledger_report_20 : decode b_Ledger_report 20 = .ok (.dup2, 1) := by decide +kernel
theorem d_Ledger_report_21 : decode b_Ledger_report 21 = .ok (.iaload, 1) := by decide +kernel
theorem d_Ledger_report_22 : decode b_Ledger_report 22 = .ok (.iconst 1, 1) := by decide +kernel
theorem d_Ledger_report_23 : decode b_Ledger_report 23 = .ok (.iadd, 1) := by decide +kernel
theorem d_Ledger_report_24 : decode b_Ledger_report 24 = .ok (.iastore, 1) := by decide +kernel
theorem d_Ledger_report_25 : decode b_Ledger_report 25 = .ok (.aload_n 0, 1) := by decide +kernel
theorem d_Ledger_report_26 : decode b_Ledger_report 26 = .ok (.getfield 18, 3) := by decide +kernel
theorem d_Ledger_report_29 : decode b_Ledger_report 29 = .ok (.iload_n 2, 1) := by decide +kernel
theorem d_Ledger_report_30 : decode b_Ledger_report 30 = .ok (.aaload, 1) := by decide +kernel
theorem d_Ledger_report_31 : decode b_Ledger_report 31 = .ok (.iload_n 1, 1) := by decide +kernel
theorem d_Ledger_report_32 : decode b_Ledger_report 32 = .ok (.dup2, 1) := by decide +kernel
theorem d_Ledger_report_33 : decode b_Ledger_report 33 = .ok (.laload, 1) := by decide +kernel
theorem d_Ledger_report_34 : decode b_Ledger_report 34 = .ok (.iload_n 3, 1) := by decide +kernel
theorem d_Ledger_report_35 : decode b_Ledger_report 35 = .ok (.i2l, 1) := by decide +kernel
theorem d_Ledger_report_36 : decode b_Ledger_report 36 = .ok (.ladd, 1) := by decide +kernel
theorem d_Ledger_report_37 : decode b_Ledger_report 37 = .ok (.lastore, 1) := by decide +kernel
theorem d_Ledger_report_38 : decode b_Ledger_report 38 = .ok (.aload_n 0, 1) := by decide +kernel
theorem d_Ledger_report_39 : decode b_Ledger_report 39 = .ok (.getfield 21, 3) := by decide +kernel
theorem d_Ledger_report_42 : decode b_Ledger_report 42 = .ok (.iload_n 1, 1) := by decide +kernel
theorem d_Ledger_report_43 : decode b_Ledger_report 43 = .ok (.dup2, 1) := by decide +kernel
theorem d_Ledger_report_44 : decode b_Ledger_report 44 = .ok (.laload, 1) := by decide +kernel
theorem d_Ledger_report_45 : decode b_Ledger_report 45 = .ok (.iload_n 3, 1) := by decide +kernel
theorem d_Ledger_report_46 : decode b_Ledger_report 46 = .ok (.i2l, 1) := by decide +kernel
theorem d_Ledger_report_47 : decode b_Ledger_report 47 = .ok (.ladd, 1) := by decide +kernel
theorem d_Ledger_report_48 : decode b_Ledger_report 48 = .ok (.lastore, 1) := by decide +kernel
theorem d_Ledger_report_49 : decode b_Ledger_report 49 = .ok (.aload_n 0, 1) := by decide +kernel
theorem d_Ledger_report_50 : decode b_Ledger_report 50 = .ok (.iload_n 2, 1) := by decide +kernel
theorem d_Ledger_report_51 : decode b_Ledger_report 51 = .ok (.iload_n 3, 1) := by decide +kernel
theorem d_Ledger_report_52 : decode b_Ledger_report 52 = .ok (.invokevirtual 61, 3) := by decide +kernel
theorem d_Ledger_report_55 : decode b_Ledger_report 55 = .ok (.istore 5, 2) := by decide +kernel
theorem d_Ledger_report_57 : decode b_Ledger_report 57 = .ok (.iload 5, 2) := by decide +kernel
theorem d_Ledger_report_59 : decode b_Ledger_report 59 = .ok (.ifCond .le 23, 3) := by decide +kernel
theorem d_Ledger_report_62 : decode b_Ledger_report 62 = .ok (.aload_n 0, 1) := by decide +kernel
theorem d_Ledger_report_63 : decode b_Ledger_report 63 = .ok (.getfield 25, 3) := by decide +kernel
theorem d_Ledger_report_66 : decode b_Ledger_report 66 = .ok (.iload_n 1, 1) := by decide +kernel
theorem d_Ledger_report_67 : decode b_Ledger_report 67 = .ok (.dup2, 1) := by decide +kernel
theorem d_Ledger_report_68 : decode b_Ledger_report 68 = .ok (.iaload, 1) := by decide +kernel
theorem d_Ledger_report_69 : decode b_Ledger_report 69 = .ok (.iload 5, 2) := by decide +kernel
theorem d_Ledger_report_71 : decode b_Ledger_report 71 = .ok (.iadd, 1) := by decide +kernel
theorem d_Ledger_report_72 : decode b_Ledger_report 72 = .ok (.iastore, 1) := by decide +kernel
theorem d_Ledger_report_73 : decode b_Ledger_report 73 = .ok (.aload_n 0, 1) := by decide +kernel
theorem d_Ledger_report_74 : decode b_Ledger_report 74 = .ok (.iload_n 1, 1) := by decide +kernel
theorem d_Ledger_report_75 : decode b_Ledger_report 75 = .ok (.iload 4, 2) := by decide +kernel
theorem d_Ledger_report_77 : decode b_Ledger_report 77 = .ok (.iload 5, 2) := by decide +kernel
theorem d_Ledger_report_79 : decode b_Ledger_report 79 = .ok (.invokevirtual 65, 3) := by decide +kernel
theorem d_Ledger_report_82 : decode b_Ledger_report 82 = .ok (.return_, 1) := by decide +kernel
def f_Ledger_report (x0 : Nat) (x1 : Int32) (x2 : Int32) (x3 : Int32) (x4 : Int32) (M : fm_M) : Option fm_M :=
  if x1 < 0 then
    some M
  else
    (gi x0 4 9 M).bind fun x102 =>
    if x1 < x102 then
      (gr x0 4 0).bind fun q105 =>
      (ar q105 x2).bind fun q107 =>
      (ai q107 x1 M).bind fun x109 =>
      (si q107 x1 (x109 + 1) M).bind fun M111 =>
      (gr x0 4 1).bind fun q113 =>
      (ar q113 x2).bind fun q115 =>
      (aj q115 x1 M111).bind fun x117 =>
      (sj q115 x1 (x117 + x3.toInt64) M111).bind fun M119 =>
      (gr x0 4 2).bind fun q121 =>
      (aj q121 x1 M119).bind fun x123 =>
      (sj q121 x1 (x123 + x3.toInt64) M119).bind fun M125 =>
      (ck x0 4).bind fun _ =>
      bd (f_Ledger_drawSamples x0 x2 x3 M125) fun x130 M128 =>
      if x130 ≤ 0 then
        some M128
      else
        (gr x0 4 3).bind fun q132 =>
        (ai q132 x1 M128).bind fun x134 =>
        (si q132 x1 (x134 + x130) M128).bind fun M136 =>
        (ck x0 4).bind fun _ =>
        (f_Ledger_countInEntry x0 x1 x4 x130 M136).bind fun M139 =>
        some M139
    else
      some M
set_option maxHeartbeats 4000000 in
set_option maxRecDepth 100000 in
theorem c_Ledger_report (l : Launch) (G : fm_G) (x0 : Nat) (x1 : Int32) (x2 : Int32) (x3 : Int32) (x4 : Int32) {M M' : fm_M} (h : f_Ledger_report x0 x1 x2 x3 x4 M = some M') : kMet l y_Ledger_report b_Ledger_report 6 none rm_Ledger_report G M [.ref (G.2.2 + x0), .int x1, .int x2, .int x3, .int x4] none M' := by
  refine r_met (by decide) rfl (Nat.le_of_ble_eq_true rfl) (fun p e s m args below meth c C0 hP ls hl => ?_)
  have hx := C0.1
  have hb := C0.2.1
  have hl : lv_has ls 6 [(0, .ref (G.2.2 + x0)), (1, .int x1), (2, .int x2), (3, .int x3), (4, .int x4)] := hl
  have hS : va_S (fm_A G.2.2) s.heap s.heap [] := va_S.rf
  unfold f_Ledger_report at h
  refine lv_iload_n hx hb d_Ledger_report_0 rfl (lv_at hl 1 rfl) ?_
  refine lv_if_lt (tgt := 12) hx hb d_Ledger_report_1 (by decide) (fun c101 => ?_) (fun c101 => ?_)
  · rw [if_pos c101] at h
    cases h
    exact r_vret C0 hP hS d_Ledger_report_12
  · rw [if_neg c101] at h
    refine lv_iload_n hx hb d_Ledger_report_4 rfl (lv_at hl 1 rfl) ?_
    refine lv_aload_n hx hb d_Ledger_report_5 rfl (lv_at hl 0 rfl) ?_
    obtain ⟨x102, e103, h⟩ := ob h
    refine k_gi C0 F_Ledger_45 ik_4_9 hP e103 d_Ledger_report_6 ?_
    refine lv_icmp_lt (tgt := 13) hx hb d_Ledger_report_9 (by decide) (fun c104 => ?_) (fun c104 => ?_)
    · rw [if_pos c104] at h
      refine lv_aload_n hx hb d_Ledger_report_13 rfl (lv_at hl 0 rfl) ?_
      obtain ⟨q105, e106, h⟩ := ob h
      refine k_gr C0 F_Ledger_11 hP e106 d_Ledger_report_14 ?_
      refine lv_iload_n hx hb d_Ledger_report_17 rfl (lv_at hl 2 rfl) ?_
      obtain ⟨q107, e108, h⟩ := ob h
      refine k_ar C0 hP e108 d_Ledger_report_18 ?_
      refine lv_iload_n hx hb d_Ledger_report_19 rfl (lv_at hl 1 rfl) ?_
      refine lv_dup2_11 hx hb d_Ledger_report_20 rfl rfl ?_
      obtain ⟨x109, e110, h⟩ := ob h
      refine k_ai C0 hP e110 d_Ledger_report_21 ?_
      refine lv_iconst (v := 1) hx hb d_Ledger_report_22 ic_1 ?_
      refine lv_iadd hx hb d_Ledger_report_23 ?_
      obtain ⟨M111, e112, h⟩ := ob h
      refine k_si C0 hP hS e112 d_Ledger_report_24 (fun H locs hP hS => ?_)
      refine lv_aload_n hx hb d_Ledger_report_25 rfl (lv_at hl 0 rfl) ?_
      obtain ⟨q113, e114, h⟩ := ob h
      refine k_gr C0 F_Ledger_18 hP e114 d_Ledger_report_26 ?_
      refine lv_iload_n hx hb d_Ledger_report_29 rfl (lv_at hl 2 rfl) ?_
      obtain ⟨q115, e116, h⟩ := ob h
      refine k_ar C0 hP e116 d_Ledger_report_30 ?_
      refine lv_iload_n hx hb d_Ledger_report_31 rfl (lv_at hl 1 rfl) ?_
      refine lv_dup2_11 hx hb d_Ledger_report_32 rfl rfl ?_
      obtain ⟨x117, e118, h⟩ := ob h
      refine k_aj C0 hP e118 d_Ledger_report_33 ?_
      refine lv_iload_n hx hb d_Ledger_report_34 rfl (lv_at hl 3 rfl) ?_
      refine lv_i2l hx hb d_Ledger_report_35 rfl ?_
      refine lv_ladd hx hb d_Ledger_report_36 ?_
      obtain ⟨M119, e120, h⟩ := ob h
      refine k_sj C0 hP hS e120 d_Ledger_report_37 (fun H locs hP hS => ?_)
      refine lv_aload_n hx hb d_Ledger_report_38 rfl (lv_at hl 0 rfl) ?_
      obtain ⟨q121, e122, h⟩ := ob h
      refine k_gr C0 F_Ledger_21 hP e122 d_Ledger_report_39 ?_
      refine lv_iload_n hx hb d_Ledger_report_42 rfl (lv_at hl 1 rfl) ?_
      refine lv_dup2_11 hx hb d_Ledger_report_43 rfl rfl ?_
      obtain ⟨x123, e124, h⟩ := ob h
      refine k_aj C0 hP e124 d_Ledger_report_44 ?_
      refine lv_iload_n hx hb d_Ledger_report_45 rfl (lv_at hl 3 rfl) ?_
      refine lv_i2l hx hb d_Ledger_report_46 rfl ?_
      refine lv_ladd hx hb d_Ledger_report_47 ?_
      obtain ⟨M125, e126, h⟩ := ob h
      refine k_sj C0 hP hS e126 d_Ledger_report_48 (fun H locs hP hS => ?_)
      refine lv_aload_n hx hb d_Ledger_report_49 rfl (lv_at hl 0 rfl) ?_
      refine lv_iload_n hx hb d_Ledger_report_50 rfl (lv_at hl 2 rfl) ?_
      refine lv_iload_n hx hb d_Ledger_report_51 rfl (lv_at hl 3 rfl) ?_
      obtain ⟨_, e127, h⟩ := ob h
      obtain ⟨x130, M128, e129, h⟩ := ob2 h
      refine k_cV C0 L_Ledger_61 (As := [.int x2, .int x3]) (c_Ledger_drawSamples l G x0 x2 x3 e129) ⟨rfl, rfl⟩ ⟨Nat.le_of_ble_eq_true rfl, Nat.le_of_ble_eq_true rfl⟩ hP hS (ck_of e127) ly_Ledger rfl hl.1 rfl (Nat.le_of_ble_eq_true rfl) d_Ledger_report_52 ⟨Nat.zero_le _, Nat.zero_le _⟩ (fun H locs hP hS => ?_)
      refine lv_istore (lv' := [(5, .int x130), (0, .ref (G.2.2 + x0)), (1, .int x1), (2, .int x2), (3, .int x3), (4, .int x4)]) hx hb d_Ledger_report_55 hl (by decide) rfl (fun ls hl => ?_)
      refine lv_iload hx hb d_Ledger_report_57 (lv_at hl 0 rfl) ?_
      refine lv_if_le (tgt := 82) hx hb d_Ledger_report_59 (by decide) (fun c131 => ?_) (fun c131 => ?_)
      · rw [if_pos c131] at h
        cases h
        exact r_vret C0 hP hS d_Ledger_report_82
      · rw [if_neg c131] at h
        refine lv_aload_n hx hb d_Ledger_report_62 rfl (lv_at hl 1 rfl) ?_
        obtain ⟨q132, e133, h⟩ := ob h
        refine k_gr C0 F_Ledger_25 hP e133 d_Ledger_report_63 ?_
        refine lv_iload_n hx hb d_Ledger_report_66 rfl (lv_at hl 2 rfl) ?_
        refine lv_dup2_11 hx hb d_Ledger_report_67 rfl rfl ?_
        obtain ⟨x134, e135, h⟩ := ob h
        refine k_ai C0 hP e135 d_Ledger_report_68 ?_
        refine lv_iload hx hb d_Ledger_report_69 (lv_at hl 0 rfl) ?_
        refine lv_iadd hx hb d_Ledger_report_71 ?_
        obtain ⟨M136, e137, h⟩ := ob h
        refine k_si C0 hP hS e137 d_Ledger_report_72 (fun H locs hP hS => ?_)
        refine lv_aload_n hx hb d_Ledger_report_73 rfl (lv_at hl 1 rfl) ?_
        refine lv_iload_n hx hb d_Ledger_report_74 rfl (lv_at hl 2 rfl) ?_
        refine lv_iload hx hb d_Ledger_report_75 (lv_at hl 5 rfl) ?_
        refine lv_iload hx hb d_Ledger_report_77 (lv_at hl 0 rfl) ?_
        obtain ⟨_, e138, h⟩ := ob h
        obtain ⟨M139, e140, h⟩ := ob h
        refine k_cVv C0 L_Ledger_65 (As := [.int x1, .int x4, .int x130]) (c_Ledger_countInEntry l G x0 x1 x4 x130 e140) ⟨rfl, rfl⟩ ⟨Nat.le_of_ble_eq_true rfl, Nat.le_of_ble_eq_true rfl⟩ hP hS (ck_of e138) ly_Ledger rfl hl.1 rfl (Nat.le_of_ble_eq_true rfl) d_Ledger_report_79 ⟨Nat.zero_le _, Nat.zero_le _⟩ (fun H locs hP hS => ?_)
        cases h
        exact r_vret C0 hP hS d_Ledger_report_82
    · rw [if_neg c104] at h
      cases h
      exact r_vret C0 hP hS d_Ledger_report_12
/-! AllocationProfiler$Ledger.fade -/
def rm_Ledger_fade : Room := { frames := 0, cells := 0, slots := 0, locals := 0 }
theorem d_Ledger_fade_0 : decode b_Ledger_fade 0 = .ok (.iconst 0, 1) := by decide +kernel
theorem d_Ledger_fade_1 : decode b_Ledger_fade 1 = .ok (.istore_n 1, 1) := by decide +kernel
theorem d_Ledger_fade_2 : decode b_Ledger_fade 2 = .ok (.iload_n 1, 1) := by decide +kernel
theorem d_Ledger_fade_3 : decode b_Ledger_fade 3 = .ok (.aload_n 0, 1) := by decide +kernel
theorem d_Ledger_fade_4 : decode b_Ledger_fade 4 = .ok (.getfield 45, 3) := by decide +kernel
theorem d_Ledger_fade_7 : decode b_Ledger_fade 7 = .ok (.if_icmp .ge 42, 3) := by decide +kernel
theorem d_Ledger_fade_10 : decode b_Ledger_fade 10 = .ok (.aload_n 0, 1) := by decide +kernel
theorem d_Ledger_fade_11 : decode b_Ledger_fade 11 = .ok (.getfield 29, 3) := by decide +kernel
theorem d_Ledger_fade_14 : decode b_Ledger_fade 14 = .ok (.iload_n 1, 1) := by decide +kernel
theorem d_Ledger_fade_15 : decode b_Ledger_fade 15 = .ok (.aload_n 0, 1) := by decide +kernel
theorem d_Ledger_fade_16 : decode b_Ledger_fade 16 = .ok (.getfield 29, 3) := by decide +kernel
theorem d_Ledger_fade_19 : decode b_Ledger_fade 19 = .ok (.iload_n 1, 1) := by decide +kernel
theorem d_Ledger_fade_20 : decode b_Ledger_fade 20 = .ok (.faload, 1) := by decide +kernel
theorem d_Ledger_fade_21 : decode b_Ledger_fade 21 = .ok (.ldc 69, 2) := by decide +kernel
theorem d_Ledger_fade_23 : decode b_Ledger_fade 23 = .ok (.fmul, 1) := by decide +kernel
theorem d_Ledger_fade_24 : decode b_Ledger_fade 24 = .ok (.aload_n 0, 1) := by decide +kernel
theorem d_Ledger_fade_25 : decode b_Ledger_fade 25 = .ok (.getfield 21, 3) := by decide +kernel
theorem d_Ledger_fade_28 : decode b_Ledger_fade 28 = .ok (.iload_n 1, 1) := by decide +kernel
theorem d_Ledger_fade_29 : decode b_Ledger_fade 29 = .ok (.laload, 1) := by decide +kernel
theorem d_Ledger_fade_30 : decode b_Ledger_fade 30 = .ok (.l2f, 1) := by decide +kernel
theorem d_Ledger_fade_31 : decode b_Ledger_fade 31 = .ok (.ldc 70, 2) := by decide +kernel
theorem d_Ledger_fade_33 : decode b_Ledger_fade 33 = .ok (.fmul, 1) := by decide +kernel
theorem d_Ledger_fade_34 : decode b_Ledger_fade 34 = .ok (.fadd, 1) := by decide +kernel
theorem d_Ledger_fade_35 : decode b_Ledger_fade 35 = .ok (.fastore, 1) := by decide +kernel
theorem d_Ledger_fade_36 : decode b_Ledger_fade 36 = .ok (.aload_n 0, 1) := by decide +kernel
theorem d_Ledger_fade_37 : decode b_Ledger_fade 37 = .ok (.getfield 21, 3) := by decide +kernel
theorem d_Ledger_fade_40 : decode b_Ledger_fade 40 = .ok (.iload_n 1, 1) := by decide +kernel
theorem d_Ledger_fade_41 : decode b_Ledger_fade 41 = .ok (.lconst 0, 1) := by decide +kernel
theorem d_Ledger_fade_42 : decode b_Ledger_fade 42 = .ok (.lastore, 1) := by decide +kernel
theorem d_Ledger_fade_43 : decode b_Ledger_fade 43 = .ok (.iinc 1 1, 3) := by decide +kernel
theorem d_Ledger_fade_46 : decode b_Ledger_fade 46 = .ok (.goto (-44), 3) := by decide +kernel
theorem d_Ledger_fade_49 : decode b_Ledger_fade 49 = .ok (.return_, 1) := by decide +kernel
def h_Ledger_fade_2 : Nat → Nat → Int32 → fm_M → Option fm_M
  | 0, _, _, _ => none
  | n + 1, x0, x1, M =>
    (gi x0 4 9 M).bind fun x101 =>
    if x101 ≤ x1 then
      some M
    else
      (gr x0 4 4).bind fun q104 =>
      (gr x0 4 4).bind fun q106 =>
      (af q106 x1 M).bind fun x108 =>
      (nn32 (FP.fmul x108 1061158912)).bind fun _ =>
      (gr x0 4 2).bind fun q111 =>
      (aj q111 x1 M).bind fun x113 =>
      (nn32 (FP.fmul (FP.l2f x113) 1048576000)).bind fun _ =>
      (nn32 (FP.fadd (FP.fmul x108 1061158912) (FP.fmul (FP.l2f x113) 1048576000))).bind fun _ =>
      (sf q104 x1 (FP.fadd (FP.fmul x108 1061158912) (FP.fmul (FP.l2f x113) 1048576000)) M).bind fun M117 =>
      (gr x0 4 2).bind fun q119 =>
      (sj q119 x1 0 M117).bind fun M121 =>
      h_Ledger_fade_2 n x0 (x1 + 1) M121
def f_Ledger_fade (x0 : Nat) (M : fm_M) : Option fm_M :=
  h_Ledger_fade_2 100000 x0 0 M
set_option maxHeartbeats 4000000 in
set_option maxRecDepth 100000 in
theorem w_Ledger_fade_2 {p : Program} {l : Launch} {e : Env} {s : State} {m : MethodId} {args : Array Value} {below : List Frame} {meth : Method} {c : Code} {G : fm_G} (C0 : fm_C p s m args meth c G (.code y_Ledger_fade b_Ledger_fade 2 none) "AllocationProfiler$Ledger" b_Ledger_fade 2 none) {M' : fm_M} : ∀ (n : Nat) (x0 : Nat) (x1 : Int32) {M : fm_M} {H : Heap} {locs : List Loc}, kP G M H → kS G s H locs → ∀ {ls : Array Slot}, lv_has ls 2 [(0, .ref (G.2.2 + x0)), (1, .int x1)] → h_Ledger_fade_2 n x0 x1 M = some M' → W p l e rm_Ledger_fade s m args below meth c H locs 0 0 (MQ below (fm_Q G 212 shF none M') args s 0 0 (fm_A G.2.2)) (F0 m 2 ls []) := by
  have hx := C0.1
  have hb := C0.2.1
  have hown := C0.2.2.2.2.1
  have hts := C0.2.2.2.2.2.1
  intro n
  induction n with
  | zero =>
    intro x0 x1 M H locs hP hS ls hl h
    exact nomatch h
  | succ n ih =>
    intro x0 x1 M H locs hP hS ls hl h
    have h : ((gi x0 4 9 M).bind fun x101 =>
      if x101 ≤ x1 then
        some M
      else
        (gr x0 4 4).bind fun q104 =>
        (gr x0 4 4).bind fun q106 =>
        (af q106 x1 M).bind fun x108 =>
        (nn32 (FP.fmul x108 1061158912)).bind fun _ =>
        (gr x0 4 2).bind fun q111 =>
        (aj q111 x1 M).bind fun x113 =>
        (nn32 (FP.fmul (FP.l2f x113) 1048576000)).bind fun _ =>
        (nn32 (FP.fadd (FP.fmul x108 1061158912) (FP.fmul (FP.l2f x113) 1048576000))).bind fun _ =>
        (sf q104 x1 (FP.fadd (FP.fmul x108 1061158912) (FP.fmul (FP.l2f x113) 1048576000)) M).bind fun M117 =>
        (gr x0 4 2).bind fun q119 =>
        (sj q119 x1 0 M117).bind fun M121 =>
        h_Ledger_fade_2 n x0 (x1 + 1) M121) = some M' := h
    refine lv_iload_n hx hb d_Ledger_fade_2 rfl (lv_at hl 1 rfl) ?_
    refine lv_aload_n hx hb d_Ledger_fade_3 rfl (lv_at hl 0 rfl) ?_
    obtain ⟨x101, e102, h⟩ := ob h
    refine k_gi C0 F_Ledger_45 ik_4_9 hP e102 d_Ledger_fade_4 ?_
    refine lv_icmp_ge (tgt := 49) hx hb d_Ledger_fade_7 (by decide) (fun c103 => ?_) (fun c103 => ?_)
    · rw [if_pos c103] at h
      cases h
      exact r_vret C0 hP hS d_Ledger_fade_49
    · rw [if_neg c103] at h
      refine lv_aload_n hx hb d_Ledger_fade_10 rfl (lv_at hl 0 rfl) ?_
      obtain ⟨q104, e105, h⟩ := ob h
      refine k_gr C0 F_Ledger_29 hP e105 d_Ledger_fade_11 ?_
      refine lv_iload_n hx hb d_Ledger_fade_14 rfl (lv_at hl 1 rfl) ?_
      refine lv_aload_n hx hb d_Ledger_fade_15 rfl (lv_at hl 0 rfl) ?_
      obtain ⟨q106, e107, h⟩ := ob h
      refine k_gr C0 F_Ledger_29 hP e107 d_Ledger_fade_16 ?_
      refine lv_iload_n hx hb d_Ledger_fade_19 rfl (lv_at hl 1 rfl) ?_
      obtain ⟨x108, e109, h⟩ := ob h
      refine k_af C0 hP e109 d_Ledger_fade_20 ?_
      refine lv_ldcf (v := 1061158912) hx hb hown (hts _ (List.mem_cons_of_mem _ (gT_in 862 (by decide +kernel) rfl))) d_Ledger_fade_21 ?_
      obtain ⟨_, e110, h⟩ := ob h
      refine lv_fmul hx hb d_Ledger_fade_23 (nn32_of e110) ?_
      refine lv_aload_n hx hb d_Ledger_fade_24 rfl (lv_at hl 0 rfl) ?_
      obtain ⟨q111, e112, h⟩ := ob h
      refine k_gr C0 F_Ledger_21 hP e112 d_Ledger_fade_25 ?_
      refine lv_iload_n hx hb d_Ledger_fade_28 rfl (lv_at hl 1 rfl) ?_
      obtain ⟨x113, e114, h⟩ := ob h
      refine k_aj C0 hP e114 d_Ledger_fade_29 ?_
      refine lv_l2f hx hb d_Ledger_fade_30 ?_
      refine lv_ldcf (v := 1048576000) hx hb hown (hts _ (List.mem_cons_of_mem _ (gT_in 863 (by decide +kernel) rfl))) d_Ledger_fade_31 ?_
      obtain ⟨_, e115, h⟩ := ob h
      refine lv_fmul hx hb d_Ledger_fade_33 (nn32_of e115) ?_
      obtain ⟨_, e116, h⟩ := ob h
      refine lv_fadd hx hb d_Ledger_fade_34 (nn32_of e116) ?_
      obtain ⟨M117, e118, h⟩ := ob h
      refine k_sf C0 hP hS e118 d_Ledger_fade_35 (fun H locs hP hS => ?_)
      refine lv_aload_n hx hb d_Ledger_fade_36 rfl (lv_at hl 0 rfl) ?_
      obtain ⟨q119, e120, h⟩ := ob h
      refine k_gr C0 F_Ledger_21 hP e120 d_Ledger_fade_37 ?_
      refine lv_iload_n hx hb d_Ledger_fade_40 rfl (lv_at hl 1 rfl) ?_
      refine lv_lconst (v := 0) hx hb d_Ledger_fade_41 lc_0 ?_
      obtain ⟨M121, e122, h⟩ := ob h
      refine k_sj C0 hP hS e122 d_Ledger_fade_42 (fun H locs hP hS => ?_)
      refine lv_iinc (v := (x1 + 1)) (lv' := [(1, .int (x1 + 1)), (0, .ref (G.2.2 + x0))]) hx hb d_Ledger_fade_43 hl (k := 1) rfl (congrArg (fun z => x1 + z) ic_1) (by decide) rfl (fun ls hl => ?_)
      refine lv_goto (tgt := 2) hx hb d_Ledger_fade_46 (by decide) ?_
      exact ih x0 (x1 + 1) hP hS (lv_sub hl [1, 0] rfl) h
set_option maxHeartbeats 4000000 in
set_option maxRecDepth 100000 in
theorem c_Ledger_fade (l : Launch) (G : fm_G) (x0 : Nat) {M M' : fm_M} (h : f_Ledger_fade x0 M = some M') : kMet l y_Ledger_fade b_Ledger_fade 2 none rm_Ledger_fade G M [.ref (G.2.2 + x0)] none M' := by
  refine r_met (by decide) rfl (Nat.le_of_ble_eq_true rfl) (fun p e s m args below meth c C0 hP ls hl => ?_)
  have hx := C0.1
  have hb := C0.2.1
  have hown := C0.2.2.2.2.1
  have hts := C0.2.2.2.2.2.1
  have hl : lv_has ls 2 [(0, .ref (G.2.2 + x0))] := hl
  have hS : va_S (fm_A G.2.2) s.heap s.heap [] := va_S.rf
  unfold f_Ledger_fade at h
  refine lv_iconst (v := 0) hx hb d_Ledger_fade_0 ic_0 ?_
  refine lv_istore_n (lv' := [(1, .int 0), (0, .ref (G.2.2 + x0))]) hx hb d_Ledger_fade_1 rfl hl (by decide) rfl (fun ls hl => ?_)
  exact w_Ledger_fade_2 C0 100000 x0 0 hP hS (lv_sub hl [1, 0] rfl) h
/-! AllocationProfiler$Ledger.objectsOf -/
def rm_Ledger_objectsOf : Room := { frames := 0, cells := 0, slots := 0, locals := 0 }
theorem d_Ledger_objectsOf_0 : decode b_Ledger_objectsOf 0 = .ok (.lconst 0, 1) := by decide +kernel
theorem d_Ledger_objectsOf_1 : decode b_Ledger_objectsOf 1 = .ok (.lstore_n 3, 1) := by decide +kernel
theorem d_Ledger_objectsOf_2 : decode b_Ledger_objectsOf 2 = .ok (.iconst 0, 1) := by decide +kernel
theorem d_Ledger_objectsOf_3 : decode b_Ledger_objectsOf 3 = .ok (.istore 5, 2) := by decide +kernel
theorem d_Ledger_objectsOf_5 : decode b_Ledger_objectsOf 5 = .ok (.iload 5, 2) := by decide +kernel
theorem d_Ledger_objectsOf_7 : decode b_Ledger_objectsOf 7 = .ok (.iconst 3, 1) := by decide +kernel
theorem d_Ledger_objectsOf_8 : decode b_Ledger_objectsOf 8 = .ok (.if_icmp .ge 37, 3) := by decide +kernel
theorem d_Ledger_objectsOf_11 : decode b_Ledger_objectsOf 11 = .ok (.lload_n 3, 1) := by decide +kernel
theorem d_Ledger_objectsOf_12 : decode b_Ledger_objectsOf 12 = .ok (.iload_n 2, 1) := by decide +kernel
theorem d_Ledger_objectsOf_13 : decode b_Ledger_objectsOf 13 = .ok (.iconst (-1), 1) := by decide +kernel
theorem d_Ledger_objectsOf_14 : decode b_Ledger_objectsOf 14 = .ok (.if_icmp .eq 9, 3) := by decide +kernel
theorem d_Ledger_objectsOf_17 : decode b_Ledger_objectsOf 17 = .ok (.iload_n 2, 1) := by decide +kernel
theorem d_Ledger_objectsOf_18 : decode b_Ledger_objectsOf 18 = .ok (.iload 5, 2) := by decide +kernel
theorem d_Ledger_objectsOf_20 : decode b_Ledger_objectsOf 20 = .ok (.if_icmp .ne 16, 3) := by decide +kernel
theorem d_Ledger_objectsOf_23 : decode b_Ledger_objectsOf 23 = .ok (.aload_n 0, 1) := by decide +kernel
theorem d_Ledger_objectsOf_24 : decode b_Ledger_objectsOf 24 = .ok (.getfield 11, 3) := by decide +kernel
theorem d_Ledger_objectsOf_27 : decode b_Ledger_objectsOf 27 = .ok (.iload 5, 2) := by decide +kernel
theorem d_Ledger_objectsOf_29 : decode b_Ledger_objectsOf 29 = .ok (.aaload, 1) := by decide +kernel
theorem d_Ledger_objectsOf_30 : decode b_Ledger_objectsOf 30 = .ok (.iload_n 1, 1) := by decide +kernel
theorem d_Ledger_objectsOf_31 : decode b_Ledger_objectsOf 31 = .ok (.iaload, 1) := by decide +kernel
theorem d_Ledger_objectsOf_32 : decode b_Ledger_objectsOf 32 = .ok (.i2l, 1) := by decide +kernel
theorem d_Ledger_objectsOf_33 : decode b_Ledger_objectsOf 33 = .ok (.goto 4, 3) := by decide +kernel
theorem d_Ledger_objectsOf_36 : decode b_Ledger_objectsOf 36 = .ok (.lconst 0, 1) := by decide +kernel
theorem d_Ledger_objectsOf_37 : decode b_Ledger_objectsOf 37 = .ok (.ladd, 1) := by decide +kernel
theorem d_Ledger_objectsOf_38 : decode b_Ledger_objectsOf 38 = .ok (.lstore_n 3, 1) := by decide +kernel
theorem d_Ledger_objectsOf_39 : decode b_Ledger_objectsOf 39 = .ok (.iinc 5 1, 3) := by decide +kernel
theorem d_Ledger_objectsOf_42 : decode b_Ledger_objectsOf 42 = .ok (.goto (-37), 3) := by decide +kernel
theorem d_Ledger_objectsOf_45 : decode b_Ledger_objectsOf 45 = .ok (.lload_n 3, 1) := by decide +kernel
theorem d_Ledger_objectsOf_46 : decode b_Ledger_objectsOf 46 = .ok (.lreturn, 1) := by decide +kernel
def j_Ledger_objectsOf_37 (k5 : Nat → Int32 → Int32 → Int64 → Int32 → fm_M → Option (Int64 × fm_M)) (x0 : Nat) (x1 : Int32) (x2 : Int32) (x5 : Int32) (s0 : Int64) (s1 : Int64) (M : fm_M) : Option (Int64 × fm_M) :=
  k5 x0 x1 x2 (s0 + s1) (x5 + 1) M
def j_Ledger_objectsOf_23 (k5 : Nat → Int32 → Int32 → Int64 → Int32 → fm_M → Option (Int64 × fm_M)) (x0 : Nat) (x1 : Int32) (x2 : Int32) (x5 : Int32) (s0 : Int64) (M : fm_M) : Option (Int64 × fm_M) :=
  (gr x0 4 0).bind fun q101 =>
  (ar q101 x5).bind fun q103 =>
  (ai q103 x1 M).bind fun x105 =>
  j_Ledger_objectsOf_37 k5 x0 x1 x2 x5 s0 x105.toInt64 M
def h_Ledger_objectsOf_5 : Nat → Nat → Int32 → Int32 → Int64 → Int32 → fm_M → Option (Int64 × fm_M)
  | 0, _, _, _, _, _, _ => none
  | n + 1, x0, x1, x2, x3, x5, M =>
    if 3 ≤ x5 then
      some (x3, M)
    else
      if x2 = (-1) then
        j_Ledger_objectsOf_23 (h_Ledger_objectsOf_5 n) x0 x1 x2 x5 x3 M
      else
        if x2 = x5 then
          j_Ledger_objectsOf_23 (h_Ledger_objectsOf_5 n) x0 x1 x2 x5 x3 M
        else
          j_Ledger_objectsOf_37 (h_Ledger_objectsOf_5 n) x0 x1 x2 x5 x3 0 M
def f_Ledger_objectsOf (x0 : Nat) (x1 : Int32) (x2 : Int32) (M : fm_M) : Option (Int64 × fm_M) :=
  h_Ledger_objectsOf_5 100000 x0 x1 x2 0 0 M
set_option maxHeartbeats 4000000 in
set_option maxRecDepth 100000 in
theorem w_Ledger_objectsOf_37 {p : Program} {l : Launch} {e : Env} {s : State} {m : MethodId} {args : Array Value} {below : List Frame} {meth : Method} {c : Code} {G : fm_G} (C0 : fm_C p s m args meth c G (.code y_Ledger_objectsOf b_Ledger_objectsOf 6 (some .long)) "AllocationProfiler$Ledger" b_Ledger_objectsOf 6 (some .long)) {v : Int64} {M' : fm_M} (k5 : Nat → Int32 → Int32 → Int64 → Int32 → fm_M → Option (Int64 × fm_M)) (hk5 : ∀ (x0 : Nat) (x1 : Int32) (x2 : Int32) (x3 : Int64) (x5 : Int32) {M : fm_M} {H : Heap} {locs : List Loc}, kP G M H → kS G s H locs → ∀ {ls : Array Slot}, lv_has ls 6 [(0, .ref (G.2.2 + x0)), (1, .int x1), (2, .int x2), (3, .long x3), (5, .int x5)] → k5 x0 x1 x2 x3 x5 M = some (v, M') → W p l e rm_Ledger_objectsOf s m args below meth c H locs 0 0 (MQ below (fm_Q G 212 shF (some (.long v)) M') args s 0 0 (fm_A G.2.2)) (F0 m 5 ls [])) (x0 : Nat) (x1 : Int32) (x2 : Int32) (x5 : Int32) (s0 : Int64) (s1 : Int64) {M : fm_M} {H : Heap} {locs : List Loc} (hP : kP G M H) (hS : kS G s H locs) {ls : Array Slot} (hl : lv_has ls 6 [(0, .ref (G.2.2 + x0)), (1, .int x1), (2, .int x2), (5, .int x5)]) (h : j_Ledger_objectsOf_37 k5 x0 x1 x2 x5 s0 s1 M = some (v, M')) : W p l e rm_Ledger_objectsOf s m args below meth c H locs 0 0 (MQ below (fm_Q G 212 shF (some (.long v)) M') args s 0 0 (fm_A G.2.2)) (F0 m 37 ls [.long s1, .long s0]) := by
  have hx := C0.1
  have hb := C0.2.1
  unfold j_Ledger_objectsOf_37 at h
  refine lv_ladd hx hb d_Ledger_objectsOf_37 ?_
  refine lv_lstore_n (lv' := [(3, .long (s0 + s1)), (0, .ref (G.2.2 + x0)), (1, .int x1), (2, .int x2), (5, .int x5)]) hx hb d_Ledger_objectsOf_38 rfl hl (by decide) rfl (fun ls hl => ?_)
  refine lv_iinc (v := (x5 + 1)) (lv' := [(5, .int (x5 + 1)), (3, .long (s0 + s1)), (0, .ref (G.2.2 + x0)), (1, .int x1), (2, .int x2)]) hx hb d_Ledger_objectsOf_39 hl (k := 4) rfl (congrArg (fun z => x5 + z) ic_1) (by decide) rfl (fun ls hl => ?_)
  refine lv_goto (tgt := 5) hx hb d_Ledger_objectsOf_42 (by decide) ?_
  exact hk5 x0 x1 x2 (s0 + s1) (x5 + 1) hP hS (lv_sub hl [2, 3, 4, 1, 0] rfl) h
set_option maxHeartbeats 4000000 in
set_option maxRecDepth 100000 in
theorem w_Ledger_objectsOf_23 {p : Program} {l : Launch} {e : Env} {s : State} {m : MethodId} {args : Array Value} {below : List Frame} {meth : Method} {c : Code} {G : fm_G} (C0 : fm_C p s m args meth c G (.code y_Ledger_objectsOf b_Ledger_objectsOf 6 (some .long)) "AllocationProfiler$Ledger" b_Ledger_objectsOf 6 (some .long)) {v : Int64} {M' : fm_M} (k5 : Nat → Int32 → Int32 → Int64 → Int32 → fm_M → Option (Int64 × fm_M)) (hk5 : ∀ (x0 : Nat) (x1 : Int32) (x2 : Int32) (x3 : Int64) (x5 : Int32) {M : fm_M} {H : Heap} {locs : List Loc}, kP G M H → kS G s H locs → ∀ {ls : Array Slot}, lv_has ls 6 [(0, .ref (G.2.2 + x0)), (1, .int x1), (2, .int x2), (3, .long x3), (5, .int x5)] → k5 x0 x1 x2 x3 x5 M = some (v, M') → W p l e rm_Ledger_objectsOf s m args below meth c H locs 0 0 (MQ below (fm_Q G 212 shF (some (.long v)) M') args s 0 0 (fm_A G.2.2)) (F0 m 5 ls [])) (x0 : Nat) (x1 : Int32) (x2 : Int32) (x5 : Int32) (s0 : Int64) {M : fm_M} {H : Heap} {locs : List Loc} (hP : kP G M H) (hS : kS G s H locs) {ls : Array Slot} (hl : lv_has ls 6 [(0, .ref (G.2.2 + x0)), (1, .int x1), (2, .int x2), (5, .int x5)]) (h : j_Ledger_objectsOf_23 k5 x0 x1 x2 x5 s0 M = some (v, M')) : W p l e rm_Ledger_objectsOf s m args below meth c H locs 0 0 (MQ below (fm_Q G 212 shF (some (.long v)) M') args s 0 0 (fm_A G.2.2)) (F0 m 23 ls [.long s0]) := by
  have hx := C0.1
  have hb := C0.2.1
  unfold j_Ledger_objectsOf_23 at h
  refine lv_aload_n hx hb d_Ledger_objectsOf_23 rfl (lv_at hl 0 rfl) ?_
  obtain ⟨q101, e102, h⟩ := ob h
  refine k_gr C0 F_Ledger_11 hP e102 d_Ledger_objectsOf_24 ?_
  refine lv_iload hx hb d_Ledger_objectsOf_27 (lv_at hl 3 rfl) ?_
  obtain ⟨q103, e104, h⟩ := ob h
  refine k_ar C0 hP e104 d_Ledger_objectsOf_29 ?_
  refine lv_iload_n hx hb d_Ledger_objectsOf_30 rfl (lv_at hl 1 rfl) ?_
  obtain ⟨x105, e106, h⟩ := ob h
  refine k_ai C0 hP e106 d_Ledger_objectsOf_31 ?_
  refine lv_i2l hx hb d_Ledger_objectsOf_32 rfl ?_
  refine lv_goto (tgt := 37) hx hb d_Ledger_objectsOf_33 (by decide) ?_
  exact w_Ledger_objectsOf_37 C0 k5 hk5 x0 x1 x2 x5 s0 x105.toInt64 hP hS (lv_sub hl [0, 1, 2, 3] rfl) h
set_option maxHeartbeats 4000000 in
set_option maxRecDepth 100000 in
theorem w_Ledger_objectsOf_5 {p : Program} {l : Launch} {e : Env} {s : State} {m : MethodId} {args : Array Value} {below : List Frame} {meth : Method} {c : Code} {G : fm_G} (C0 : fm_C p s m args meth c G (.code y_Ledger_objectsOf b_Ledger_objectsOf 6 (some .long)) "AllocationProfiler$Ledger" b_Ledger_objectsOf 6 (some .long)) {v : Int64} {M' : fm_M} : ∀ (n : Nat) (x0 : Nat) (x1 : Int32) (x2 : Int32) (x3 : Int64) (x5 : Int32) {M : fm_M} {H : Heap} {locs : List Loc}, kP G M H → kS G s H locs → ∀ {ls : Array Slot}, lv_has ls 6 [(0, .ref (G.2.2 + x0)), (1, .int x1), (2, .int x2), (3, .long x3), (5, .int x5)] → h_Ledger_objectsOf_5 n x0 x1 x2 x3 x5 M = some (v, M') → W p l e rm_Ledger_objectsOf s m args below meth c H locs 0 0 (MQ below (fm_Q G 212 shF (some (.long v)) M') args s 0 0 (fm_A G.2.2)) (F0 m 5 ls []) := by
  have hx := C0.1
  have hb := C0.2.1
  intro n
  induction n with
  | zero =>
    intro x0 x1 x2 x3 x5 M H locs hP hS ls hl h
    exact nomatch h
  | succ n ih =>
    intro x0 x1 x2 x3 x5 M H locs hP hS ls hl h
    have h : (if 3 ≤ x5 then
        some (x3, M)
      else
        if x2 = (-1) then
          j_Ledger_objectsOf_23 (h_Ledger_objectsOf_5 n) x0 x1 x2 x5 x3 M
        else
          if x2 = x5 then
            j_Ledger_objectsOf_23 (h_Ledger_objectsOf_5 n) x0 x1 x2 x5 x3 M
          else
            j_Ledger_objectsOf_37 (h_Ledger_objectsOf_5 n) x0 x1 x2 x5 x3 0 M) = some (v, M') := h
    refine lv_iload hx hb d_Ledger_objectsOf_5 (lv_at hl 4 rfl) ?_
    refine lv_iconst (v := 3) hx hb d_Ledger_objectsOf_7 ic_3 ?_
    refine lv_icmp_ge (tgt := 45) hx hb d_Ledger_objectsOf_8 (by decide) (fun c107 => ?_) (fun c107 => ?_)
    · rw [if_pos c107] at h
      refine lv_lload_n hx hb d_Ledger_objectsOf_45 rfl (lv_at hl 3 rfl) ?_
      cases h
      exact r_lret C0 hP hS d_Ledger_objectsOf_46
    · rw [if_neg c107] at h
      refine lv_lload_n hx hb d_Ledger_objectsOf_11 rfl (lv_at hl 3 rfl) ?_
      refine lv_iload_n hx hb d_Ledger_objectsOf_12 rfl (lv_at hl 2 rfl) ?_
      refine lv_iconst (v := (-1)) hx hb d_Ledger_objectsOf_13 ic_m1 ?_
      refine lv_icmp_eq (tgt := 23) hx hb d_Ledger_objectsOf_14 (by decide) (fun c108 => ?_) (fun c108 => ?_)
      · rw [if_pos c108] at h
        exact w_Ledger_objectsOf_23 C0 (h_Ledger_objectsOf_5 n) ih x0 x1 x2 x5 x3 hP hS (lv_sub hl [0, 1, 2, 4] rfl) h
      · rw [if_neg c108] at h
        refine lv_iload_n hx hb d_Ledger_objectsOf_17 rfl (lv_at hl 2 rfl) ?_
        refine lv_iload hx hb d_Ledger_objectsOf_18 (lv_at hl 4 rfl) ?_
        refine lv_icmp_ne (tgt := 36) hx hb d_Ledger_objectsOf_20 (by decide) (fun c109 => ?_) (fun c109 => ?_)
        · rw [if_neg c109] at h
          refine lv_lconst (v := 0) hx hb d_Ledger_objectsOf_36 lc_0 ?_
          exact w_Ledger_objectsOf_37 C0 (h_Ledger_objectsOf_5 n) ih x0 x1 x2 x5 x3 0 hP hS (lv_sub hl [0, 1, 2, 4] rfl) h
        · rw [if_pos c109] at h
          exact w_Ledger_objectsOf_23 C0 (h_Ledger_objectsOf_5 n) ih x0 x1 x2 x5 x3 hP hS (lv_sub hl [0, 1, 2, 4] rfl) h
set_option maxHeartbeats 4000000 in
set_option maxRecDepth 100000 in
theorem c_Ledger_objectsOf (l : Launch) (G : fm_G) (x0 : Nat) (x1 : Int32) (x2 : Int32) {v : Int64} {M M' : fm_M} (h : f_Ledger_objectsOf x0 x1 x2 M = some (v, M')) : kMet l y_Ledger_objectsOf b_Ledger_objectsOf 6 (some .long) rm_Ledger_objectsOf G M [.ref (G.2.2 + x0), .int x1, .int x2] (some (.long v)) M' := by
  refine r_met (by decide) rfl (Nat.le_of_ble_eq_true rfl) (fun p e s m args below meth c C0 hP ls hl => ?_)
  have hx := C0.1
  have hb := C0.2.1
  have hl : lv_has ls 6 [(0, .ref (G.2.2 + x0)), (1, .int x1), (2, .int x2)] := hl
  have hS : va_S (fm_A G.2.2) s.heap s.heap [] := va_S.rf
  unfold f_Ledger_objectsOf at h
  refine lv_lconst (v := 0) hx hb d_Ledger_objectsOf_0 lc_0 ?_
  refine lv_lstore_n (lv' := [(3, .long 0), (0, .ref (G.2.2 + x0)), (1, .int x1), (2, .int x2)]) hx hb d_Ledger_objectsOf_1 rfl hl (by decide) rfl (fun ls hl => ?_)
  refine lv_iconst (v := 0) hx hb d_Ledger_objectsOf_2 ic_0 ?_
  refine lv_istore (lv' := [(5, .int 0), (3, .long 0), (0, .ref (G.2.2 + x0)), (1, .int x1), (2, .int x2)]) hx hb d_Ledger_objectsOf_3 hl (by decide) rfl (fun ls hl => ?_)
  exact w_Ledger_objectsOf_5 C0 100000 x0 x1 x2 0 0 hP hS (lv_sub hl [2, 3, 4, 1, 0] rfl) h
/-! AllocationProfiler$Ledger.bytesOf -/
def rm_Ledger_bytesOf : Room := { frames := 0, cells := 0, slots := 0, locals := 0 }
theorem d_Ledger_bytesOf_0 : decode b_Ledger_bytesOf 0 = .ok (.lconst 0, 1) := by decide +kernel
theorem d_Ledger_bytesOf_1 : decode b_Ledger_bytesOf 1 = .ok (.lstore_n 3, 1) := by decide +kernel
theorem d_Ledger_bytesOf_2 : decode b_Ledger_bytesOf 2 = .ok (.iconst 0, 1) := by decide +kernel
theorem d_Ledger_bytesOf_3 : decode b_Ledger_bytesOf 3 = .ok (.istore 5, 2) := by decide +kernel
theorem d_Ledger_bytesOf_5 : decode b_Ledger_bytesOf 5 = .ok (.iload 5, 2) := by decide +kernel
theorem d_Ledger_bytesOf_7 : decode b_Ledger_bytesOf 7 = .ok (.iconst 3, 1) := by decide +kernel
theorem d_Ledger_bytesOf_8 : decode b_Ledger_bytesOf 8 = .ok (.if_icmp .ge 36, 3) := by decide +kernel
theorem d_Ledger_bytesOf_11 : decode b_Ledger_bytesOf 11 = .ok (.lload_n 3, 1) := by decide +kernel
theorem d_Ledger_bytesOf_12 : decode b_Ledger_bytesOf 12 = .ok (.iload_n 2, 1) := by decide +kernel
theorem d_Ledger_bytesOf_13 : decode b_Ledger_bytesOf 13 = .ok (.iconst (-1), 1) := by decide +kernel
theorem d_Ledger_bytesOf_14 : decode b_Ledger_bytesOf 14 = .ok (.if_icmp .eq 9, 3) := by decide +kernel
theorem d_Ledger_bytesOf_17 : decode b_Ledger_bytesOf 17 = .ok (.iload_n 2, 1) := by decide +kernel
theorem d_Ledger_bytesOf_18 : decode b_Ledger_bytesOf 18 = .ok (.iload 5, 2) := by decide +kernel
theorem d_Ledger_bytesOf_20 : decode b_Ledger_bytesOf 20 = .ok (.if_icmp .ne 15, 3) := by decide +kernel
theorem d_Ledger_bytesOf_23 : decode b_Ledger_bytesOf 23 = .ok (.aload_n 0, 1) := by decide +kernel
theorem d_Ledger_bytesOf_24 : decode b_Ledger_bytesOf 24 = .ok (.getfield 18, 3) := by decide +kernel
theorem d_Ledger_bytesOf_27 : decode b_Ledger_bytesOf 27 = .ok (.iload 5, 2) := by decide +kernel
theorem d_Ledger_bytesOf_29 : decode b_Ledger_bytesOf 29 = .ok (.aaload, 1) := by decide +kernel
theorem d_Ledger_bytesOf_30 : decode b_Ledger_bytesOf 30 = .ok (.iload_n 1, 1) := by decide +kernel
theorem d_Ledger_bytesOf_31 : decode b_Ledger_bytesOf 31 = .ok (.laload, 1) := by decide +kernel
theorem d_Ledger_bytesOf_32 : decode b_Ledger_bytesOf 32 = .ok (.goto 4, 3) := by decide +kernel
theorem d_Ledger_bytesOf_35 : decode b_Ledger_bytesOf 35 = .ok (.lconst 0, 1) := by decide +kernel
theorem d_Ledger_bytesOf_36 : decode b_Ledger_bytesOf 36 = .ok (.ladd, 1) := by decide +kernel
theorem d_Ledger_bytesOf_37 : decode b_Ledger_bytesOf 37 = .ok (.lstore_n 3, 1) := by decide +kernel
theorem d_Ledger_bytesOf_38 : decode b_Ledger_bytesOf 38 = .ok (.iinc 5 1, 3) := by decide +kernel
theorem d_Ledger_bytesOf_41 : decode b_Ledger_bytesOf 41 = .ok (.goto (-36), 3) := by decide +kernel
theorem d_Ledger_bytesOf_44 : decode b_Ledger_bytesOf 44 = .ok (.lload_n 3, 1) := by decide +kernel
theorem d_Ledger_bytesOf_45 : decode b_Ledger_bytesOf 45 = .ok (.lreturn, 1) := by decide +kernel
def j_Ledger_bytesOf_36 (k5 : Nat → Int32 → Int32 → Int64 → Int32 → fm_M → Option (Int64 × fm_M)) (x0 : Nat) (x1 : Int32) (x2 : Int32) (x5 : Int32) (s0 : Int64) (s1 : Int64) (M : fm_M) : Option (Int64 × fm_M) :=
  k5 x0 x1 x2 (s0 + s1) (x5 + 1) M
def j_Ledger_bytesOf_23 (k5 : Nat → Int32 → Int32 → Int64 → Int32 → fm_M → Option (Int64 × fm_M)) (x0 : Nat) (x1 : Int32) (x2 : Int32) (x5 : Int32) (s0 : Int64) (M : fm_M) : Option (Int64 × fm_M) :=
  (gr x0 4 1).bind fun q101 =>
  (ar q101 x5).bind fun q103 =>
  (aj q103 x1 M).bind fun x105 =>
  j_Ledger_bytesOf_36 k5 x0 x1 x2 x5 s0 x105 M
def h_Ledger_bytesOf_5 : Nat → Nat → Int32 → Int32 → Int64 → Int32 → fm_M → Option (Int64 × fm_M)
  | 0, _, _, _, _, _, _ => none
  | n + 1, x0, x1, x2, x3, x5, M =>
    if 3 ≤ x5 then
      some (x3, M)
    else
      if x2 = (-1) then
        j_Ledger_bytesOf_23 (h_Ledger_bytesOf_5 n) x0 x1 x2 x5 x3 M
      else
        if x2 = x5 then
          j_Ledger_bytesOf_23 (h_Ledger_bytesOf_5 n) x0 x1 x2 x5 x3 M
        else
          j_Ledger_bytesOf_36 (h_Ledger_bytesOf_5 n) x0 x1 x2 x5 x3 0 M
def f_Ledger_bytesOf (x0 : Nat) (x1 : Int32) (x2 : Int32) (M : fm_M) : Option (Int64 × fm_M) :=
  h_Ledger_bytesOf_5 100000 x0 x1 x2 0 0 M
set_option maxHeartbeats 4000000 in
set_option maxRecDepth 100000 in
theorem w_Ledger_bytesOf_36 {p : Program} {l : Launch} {e : Env} {s : State} {m : MethodId} {args : Array Value} {below : List Frame} {meth : Method} {c : Code} {G : fm_G} (C0 : fm_C p s m args meth c G (.code y_Ledger_bytesOf b_Ledger_bytesOf 6 (some .long)) "AllocationProfiler$Ledger" b_Ledger_bytesOf 6 (some .long)) {v : Int64} {M' : fm_M} (k5 : Nat → Int32 → Int32 → Int64 → Int32 → fm_M → Option (Int64 × fm_M)) (hk5 : ∀ (x0 : Nat) (x1 : Int32) (x2 : Int32) (x3 : Int64) (x5 : Int32) {M : fm_M} {H : Heap} {locs : List Loc}, kP G M H → kS G s H locs → ∀ {ls : Array Slot}, lv_has ls 6 [(0, .ref (G.2.2 + x0)), (1, .int x1), (2, .int x2), (3, .long x3), (5, .int x5)] → k5 x0 x1 x2 x3 x5 M = some (v, M') → W p l e rm_Ledger_bytesOf s m args below meth c H locs 0 0 (MQ below (fm_Q G 212 shF (some (.long v)) M') args s 0 0 (fm_A G.2.2)) (F0 m 5 ls [])) (x0 : Nat) (x1 : Int32) (x2 : Int32) (x5 : Int32) (s0 : Int64) (s1 : Int64) {M : fm_M} {H : Heap} {locs : List Loc} (hP : kP G M H) (hS : kS G s H locs) {ls : Array Slot} (hl : lv_has ls 6 [(0, .ref (G.2.2 + x0)), (1, .int x1), (2, .int x2), (5, .int x5)]) (h : j_Ledger_bytesOf_36 k5 x0 x1 x2 x5 s0 s1 M = some (v, M')) : W p l e rm_Ledger_bytesOf s m args below meth c H locs 0 0 (MQ below (fm_Q G 212 shF (some (.long v)) M') args s 0 0 (fm_A G.2.2)) (F0 m 36 ls [.long s1, .long s0]) := by
  have hx := C0.1
  have hb := C0.2.1
  unfold j_Ledger_bytesOf_36 at h
  refine lv_ladd hx hb d_Ledger_bytesOf_36 ?_
  refine lv_lstore_n (lv' := [(3, .long (s0 + s1)), (0, .ref (G.2.2 + x0)), (1, .int x1), (2, .int x2), (5, .int x5)]) hx hb d_Ledger_bytesOf_37 rfl hl (by decide) rfl (fun ls hl => ?_)
  refine lv_iinc (v := (x5 + 1)) (lv' := [(5, .int (x5 + 1)), (3, .long (s0 + s1)), (0, .ref (G.2.2 + x0)), (1, .int x1), (2, .int x2)]) hx hb d_Ledger_bytesOf_38 hl (k := 4) rfl (congrArg (fun z => x5 + z) ic_1) (by decide) rfl (fun ls hl => ?_)
  refine lv_goto (tgt := 5) hx hb d_Ledger_bytesOf_41 (by decide) ?_
  exact hk5 x0 x1 x2 (s0 + s1) (x5 + 1) hP hS (lv_sub hl [2, 3, 4, 1, 0] rfl) h
set_option maxHeartbeats 4000000 in
set_option maxRecDepth 100000 in
theorem w_Ledger_bytesOf_23 {p : Program} {l : Launch} {e : Env} {s : State} {m : MethodId} {args : Array Value} {below : List Frame} {meth : Method} {c : Code} {G : fm_G} (C0 : fm_C p s m args meth c G (.code y_Ledger_bytesOf b_Ledger_bytesOf 6 (some .long)) "AllocationProfiler$Ledger" b_Ledger_bytesOf 6 (some .long)) {v : Int64} {M' : fm_M} (k5 : Nat → Int32 → Int32 → Int64 → Int32 → fm_M → Option (Int64 × fm_M)) (hk5 : ∀ (x0 : Nat) (x1 : Int32) (x2 : Int32) (x3 : Int64) (x5 : Int32) {M : fm_M} {H : Heap} {locs : List Loc}, kP G M H → kS G s H locs → ∀ {ls : Array Slot}, lv_has ls 6 [(0, .ref (G.2.2 + x0)), (1, .int x1), (2, .int x2), (3, .long x3), (5, .int x5)] → k5 x0 x1 x2 x3 x5 M = some (v, M') → W p l e rm_Ledger_bytesOf s m args below meth c H locs 0 0 (MQ below (fm_Q G 212 shF (some (.long v)) M') args s 0 0 (fm_A G.2.2)) (F0 m 5 ls [])) (x0 : Nat) (x1 : Int32) (x2 : Int32) (x5 : Int32) (s0 : Int64) {M : fm_M} {H : Heap} {locs : List Loc} (hP : kP G M H) (hS : kS G s H locs) {ls : Array Slot} (hl : lv_has ls 6 [(0, .ref (G.2.2 + x0)), (1, .int x1), (2, .int x2), (5, .int x5)]) (h : j_Ledger_bytesOf_23 k5 x0 x1 x2 x5 s0 M = some (v, M')) : W p l e rm_Ledger_bytesOf s m args below meth c H locs 0 0 (MQ below (fm_Q G 212 shF (some (.long v)) M') args s 0 0 (fm_A G.2.2)) (F0 m 23 ls [.long s0]) := by
  have hx := C0.1
  have hb := C0.2.1
  unfold j_Ledger_bytesOf_23 at h
  refine lv_aload_n hx hb d_Ledger_bytesOf_23 rfl (lv_at hl 0 rfl) ?_
  obtain ⟨q101, e102, h⟩ := ob h
  refine k_gr C0 F_Ledger_18 hP e102 d_Ledger_bytesOf_24 ?_
  refine lv_iload hx hb d_Ledger_bytesOf_27 (lv_at hl 3 rfl) ?_
  obtain ⟨q103, e104, h⟩ := ob h
  refine k_ar C0 hP e104 d_Ledger_bytesOf_29 ?_
  refine lv_iload_n hx hb d_Ledger_bytesOf_30 rfl (lv_at hl 1 rfl) ?_
  obtain ⟨x105, e106, h⟩ := ob h
  refine k_aj C0 hP e106 d_Ledger_bytesOf_31 ?_
  refine lv_goto (tgt := 36) hx hb d_Ledger_bytesOf_32 (by decide) ?_
  exact w_Ledger_bytesOf_36 C0 k5 hk5 x0 x1 x2 x5 s0 x105 hP hS (lv_sub hl [0, 1, 2, 3] rfl) h
set_option maxHeartbeats 4000000 in
set_option maxRecDepth 100000 in
theorem w_Ledger_bytesOf_5 {p : Program} {l : Launch} {e : Env} {s : State} {m : MethodId} {args : Array Value} {below : List Frame} {meth : Method} {c : Code} {G : fm_G} (C0 : fm_C p s m args meth c G (.code y_Ledger_bytesOf b_Ledger_bytesOf 6 (some .long)) "AllocationProfiler$Ledger" b_Ledger_bytesOf 6 (some .long)) {v : Int64} {M' : fm_M} : ∀ (n : Nat) (x0 : Nat) (x1 : Int32) (x2 : Int32) (x3 : Int64) (x5 : Int32) {M : fm_M} {H : Heap} {locs : List Loc}, kP G M H → kS G s H locs → ∀ {ls : Array Slot}, lv_has ls 6 [(0, .ref (G.2.2 + x0)), (1, .int x1), (2, .int x2), (3, .long x3), (5, .int x5)] → h_Ledger_bytesOf_5 n x0 x1 x2 x3 x5 M = some (v, M') → W p l e rm_Ledger_bytesOf s m args below meth c H locs 0 0 (MQ below (fm_Q G 212 shF (some (.long v)) M') args s 0 0 (fm_A G.2.2)) (F0 m 5 ls []) := by
  have hx := C0.1
  have hb := C0.2.1
  intro n
  induction n with
  | zero =>
    intro x0 x1 x2 x3 x5 M H locs hP hS ls hl h
    exact nomatch h
  | succ n ih =>
    intro x0 x1 x2 x3 x5 M H locs hP hS ls hl h
    have h : (if 3 ≤ x5 then
        some (x3, M)
      else
        if x2 = (-1) then
          j_Ledger_bytesOf_23 (h_Ledger_bytesOf_5 n) x0 x1 x2 x5 x3 M
        else
          if x2 = x5 then
            j_Ledger_bytesOf_23 (h_Ledger_bytesOf_5 n) x0 x1 x2 x5 x3 M
          else
            j_Ledger_bytesOf_36 (h_Ledger_bytesOf_5 n) x0 x1 x2 x5 x3 0 M) = some (v, M') := h
    refine lv_iload hx hb d_Ledger_bytesOf_5 (lv_at hl 4 rfl) ?_
    refine lv_iconst (v := 3) hx hb d_Ledger_bytesOf_7 ic_3 ?_
    refine lv_icmp_ge (tgt := 44) hx hb d_Ledger_bytesOf_8 (by decide) (fun c107 => ?_) (fun c107 => ?_)
    · rw [if_pos c107] at h
      refine lv_lload_n hx hb d_Ledger_bytesOf_44 rfl (lv_at hl 3 rfl) ?_
      cases h
      exact r_lret C0 hP hS d_Ledger_bytesOf_45
    · rw [if_neg c107] at h
      refine lv_lload_n hx hb d_Ledger_bytesOf_11 rfl (lv_at hl 3 rfl) ?_
      refine lv_iload_n hx hb d_Ledger_bytesOf_12 rfl (lv_at hl 2 rfl) ?_
      refine lv_iconst (v := (-1)) hx hb d_Ledger_bytesOf_13 ic_m1 ?_
      refine lv_icmp_eq (tgt := 23) hx hb d_Ledger_bytesOf_14 (by decide) (fun c108 => ?_) (fun c108 => ?_)
      · rw [if_pos c108] at h
        exact w_Ledger_bytesOf_23 C0 (h_Ledger_bytesOf_5 n) ih x0 x1 x2 x5 x3 hP hS (lv_sub hl [0, 1, 2, 4] rfl) h
      · rw [if_neg c108] at h
        refine lv_iload_n hx hb d_Ledger_bytesOf_17 rfl (lv_at hl 2 rfl) ?_
        refine lv_iload hx hb d_Ledger_bytesOf_18 (lv_at hl 4 rfl) ?_
        refine lv_icmp_ne (tgt := 35) hx hb d_Ledger_bytesOf_20 (by decide) (fun c109 => ?_) (fun c109 => ?_)
        · rw [if_neg c109] at h
          refine lv_lconst (v := 0) hx hb d_Ledger_bytesOf_35 lc_0 ?_
          exact w_Ledger_bytesOf_36 C0 (h_Ledger_bytesOf_5 n) ih x0 x1 x2 x5 x3 0 hP hS (lv_sub hl [0, 1, 2, 4] rfl) h
        · rw [if_pos c109] at h
          exact w_Ledger_bytesOf_23 C0 (h_Ledger_bytesOf_5 n) ih x0 x1 x2 x5 x3 hP hS (lv_sub hl [0, 1, 2, 4] rfl) h
set_option maxHeartbeats 4000000 in
set_option maxRecDepth 100000 in
theorem c_Ledger_bytesOf (l : Launch) (G : fm_G) (x0 : Nat) (x1 : Int32) (x2 : Int32) {v : Int64} {M M' : fm_M} (h : f_Ledger_bytesOf x0 x1 x2 M = some (v, M')) : kMet l y_Ledger_bytesOf b_Ledger_bytesOf 6 (some .long) rm_Ledger_bytesOf G M [.ref (G.2.2 + x0), .int x1, .int x2] (some (.long v)) M' := by
  refine r_met (by decide) rfl (Nat.le_of_ble_eq_true rfl) (fun p e s m args below meth c C0 hP ls hl => ?_)
  have hx := C0.1
  have hb := C0.2.1
  have hl : lv_has ls 6 [(0, .ref (G.2.2 + x0)), (1, .int x1), (2, .int x2)] := hl
  have hS : va_S (fm_A G.2.2) s.heap s.heap [] := va_S.rf
  unfold f_Ledger_bytesOf at h
  refine lv_lconst (v := 0) hx hb d_Ledger_bytesOf_0 lc_0 ?_
  refine lv_lstore_n (lv' := [(3, .long 0), (0, .ref (G.2.2 + x0)), (1, .int x1), (2, .int x2)]) hx hb d_Ledger_bytesOf_1 rfl hl (by decide) rfl (fun ls hl => ?_)
  refine lv_iconst (v := 0) hx hb d_Ledger_bytesOf_2 ic_0 ?_
  refine lv_istore (lv' := [(5, .int 0), (3, .long 0), (0, .ref (G.2.2 + x0)), (1, .int x1), (2, .int x2)]) hx hb d_Ledger_bytesOf_3 hl (by decide) rfl (fun ls hl => ?_)
  exact w_Ledger_bytesOf_5 C0 100000 x0 x1 x2 0 0 hP hS (lv_sub hl [2, 3, 4, 1, 0] rfl) h
/-! AllocationProfiler$Ledger.bytesOfAll -/
def rm_Ledger_bytesOfAll : Room := { frames := 1, cells := 0, slots := 0, locals := 25 }
theorem d_Ledger_bytesOfAll_0 : decode b_Ledger_bytesOfAll 0 = .ok (.lconst 0, 1) := by decide +kernel
theorem d_Ledger_bytesOfAll_1 : decode b_Ledger_bytesOfAll 1 = .ok (.lstore_n 1, 1) := by decide +kernel
theorem d_Ledger_bytesOfAll_2 : decode b_Ledger_bytesOfAll 2 = .ok (.iconst 0, 1) := by decide +kernel
theorem d_Ledger_bytesOfAll_3 : decode b_Ledger_bytesOfAll 3 = .ok (.istore_n 3, 1) := by decide +kernel
theorem d_Ledger_bytesOfAll_4 : decode b_Ledger_bytesOfAll 4 = .ok (.iload_n 3, 1) := by decide +kernel
theorem d_Ledger_bytesOfAll_5 : decode b_Ledger_bytesOfAll 5 = .ok (.aload_n 0, 1) := by decide +kernel
theorem d_Ledger_bytesOfAll_6 : decode b_Ledger_bytesOfAll 6 = .ok (.getfield 45, 3) := by decide +kernel
theorem d_Ledger_bytesOfAll_9 : decode b_Ledger_bytesOfAll 9 = .ok (.if_icmp .ge 18, 3) := by decide +kernel
theorem d_Ledger_bytesOfAll_12 : decode b_Ledger_bytesOfAll 12 = .ok (.lload_n 1, 1) := by decide +kernel
theorem d_Ledger_bytesOfAll_13 : decode b_Ledger_bytesOfAll 13 = .ok (.aload_n 0, 1) := by decide +kernel
theorem d_Ledger_bytesOfAll_14 : decode b_Ledger_bytesOfAll 14 = .ok (.iload_n 3, 1) := by decide +kernel
theorem d_Ledger_bytesOfAll_15 : decode b_Ledger_bytesOfAll 15 = .ok (.iconst (-1), 1) := by decide +kernel
theorem d_Ledger_bytesOfAll_16 : decode b_Ledger_bytesOfAll 16 = .ok (.invokevirtual 75, 3) := by decide +kernel
theorem d_Ledger_bytesOfAll_19 : decode b_Ledger_bytesOfAll 19 = .ok (.ladd, 1) := by decide +kernel
theorem d_Ledger_bytesOfAll_20 : decode b_Ledger_bytesOfAll 20 = .ok (.lstore_n 1, 1) := by decide +kernel
theorem d_Ledger_bytesOfAll_21 : decode b_Ledger_bytesOfAll 21 = .ok (.iinc 3 1, 3) := by decide +kernel
theorem d_Ledger_bytesOfAll_24 : decode b_Ledger_bytesOfAll 24 = .ok (.goto (-20), 3) := by decide +kernel
theorem d_Ledger_bytesOfAll_27 : decode b_Ledger_bytesOfAll 27 = .ok (.lload_n 1, 1) := by decide +kernel
theorem d_Ledger_bytesOfAll_28 : decode b_Ledger_bytesOfAll 28 = .ok (.lreturn, 1) := by decide +kernel
def h_Ledger_bytesOfAll_4 : Nat → Nat → Int64 → Int32 → fm_M → Option (Int64 × fm_M)
  | 0, _, _, _, _ => none
  | n + 1, x0, x1, x3, M =>
    (gi x0 4 9 M).bind fun x101 =>
    if x101 ≤ x3 then
      some (x1, M)
    else
      (ck x0 4).bind fun _ =>
      bd (f_Ledger_bytesOf x0 x3 (-1) M) fun x107 M105 =>
      h_Ledger_bytesOfAll_4 n x0 (x1 + x107) (x3 + 1) M105
def f_Ledger_bytesOfAll (x0 : Nat) (M : fm_M) : Option (Int64 × fm_M) :=
  h_Ledger_bytesOfAll_4 100000 x0 0 0 M
set_option maxHeartbeats 4000000 in
set_option maxRecDepth 100000 in
theorem w_Ledger_bytesOfAll_4 {p : Program} {l : Launch} {e : Env} {s : State} {m : MethodId} {args : Array Value} {below : List Frame} {meth : Method} {c : Code} {G : fm_G} (C0 : fm_C p s m args meth c G (.code y_Ledger_bytesOfAll b_Ledger_bytesOfAll 4 (some .long)) "AllocationProfiler$Ledger" b_Ledger_bytesOfAll 4 (some .long)) {v : Int64} {M' : fm_M} : ∀ (n : Nat) (x0 : Nat) (x1 : Int64) (x3 : Int32) {M : fm_M} {H : Heap} {locs : List Loc}, kP G M H → kS G s H locs → ∀ {ls : Array Slot}, lv_has ls 4 [(0, .ref (G.2.2 + x0)), (1, .long x1), (3, .int x3)] → h_Ledger_bytesOfAll_4 n x0 x1 x3 M = some (v, M') → W p l e rm_Ledger_bytesOfAll s m args below meth c H locs 0 0 (MQ below (fm_Q G 212 shF (some (.long v)) M') args s 0 0 (fm_A G.2.2)) (F0 m 4 ls []) := by
  have hx := C0.1
  have hb := C0.2.1
  intro n
  induction n with
  | zero =>
    intro x0 x1 x3 M H locs hP hS ls hl h
    exact nomatch h
  | succ n ih =>
    intro x0 x1 x3 M H locs hP hS ls hl h
    have h : ((gi x0 4 9 M).bind fun x101 =>
      if x101 ≤ x3 then
        some (x1, M)
      else
        (ck x0 4).bind fun _ =>
        bd (f_Ledger_bytesOf x0 x3 (-1) M) fun x107 M105 =>
        h_Ledger_bytesOfAll_4 n x0 (x1 + x107) (x3 + 1) M105) = some (v, M') := h
    refine lv_iload_n hx hb d_Ledger_bytesOfAll_4 rfl (lv_at hl 2 rfl) ?_
    refine lv_aload_n hx hb d_Ledger_bytesOfAll_5 rfl (lv_at hl 0 rfl) ?_
    obtain ⟨x101, e102, h⟩ := ob h
    refine k_gi C0 F_Ledger_45 ik_4_9 hP e102 d_Ledger_bytesOfAll_6 ?_
    refine lv_icmp_ge (tgt := 27) hx hb d_Ledger_bytesOfAll_9 (by decide) (fun c103 => ?_) (fun c103 => ?_)
    · rw [if_pos c103] at h
      refine lv_lload_n hx hb d_Ledger_bytesOfAll_27 rfl (lv_at hl 1 rfl) ?_
      cases h
      exact r_lret C0 hP hS d_Ledger_bytesOfAll_28
    · rw [if_neg c103] at h
      refine lv_lload_n hx hb d_Ledger_bytesOfAll_12 rfl (lv_at hl 1 rfl) ?_
      refine lv_aload_n hx hb d_Ledger_bytesOfAll_13 rfl (lv_at hl 0 rfl) ?_
      refine lv_iload_n hx hb d_Ledger_bytesOfAll_14 rfl (lv_at hl 2 rfl) ?_
      refine lv_iconst (v := (-1)) hx hb d_Ledger_bytesOfAll_15 ic_m1 ?_
      obtain ⟨_, e104, h⟩ := ob h
      obtain ⟨x107, M105, e106, h⟩ := ob2 h
      refine k_cV C0 L_Ledger_75 (As := [.int x3, .int (-1)]) (c_Ledger_bytesOf l G x0 x3 (-1) e106) ⟨rfl, rfl⟩ ⟨Nat.le_of_ble_eq_true rfl, Nat.le_of_ble_eq_true rfl⟩ hP hS (ck_of e104) ly_Ledger rfl hl.1 rfl (Nat.le_of_ble_eq_true rfl) d_Ledger_bytesOfAll_16 ⟨Nat.zero_le _, Nat.zero_le _⟩ (fun H locs hP hS => ?_)
      refine lv_ladd hx hb d_Ledger_bytesOfAll_19 ?_
      refine lv_lstore_n (lv' := [(1, .long (x1 + x107)), (0, .ref (G.2.2 + x0)), (3, .int x3)]) hx hb d_Ledger_bytesOfAll_20 rfl hl (by decide) rfl (fun ls hl => ?_)
      refine lv_iinc (v := (x3 + 1)) (lv' := [(3, .int (x3 + 1)), (1, .long (x1 + x107)), (0, .ref (G.2.2 + x0))]) hx hb d_Ledger_bytesOfAll_21 hl (k := 2) rfl (congrArg (fun z => x3 + z) ic_1) (by decide) rfl (fun ls hl => ?_)
      refine lv_goto (tgt := 4) hx hb d_Ledger_bytesOfAll_24 (by decide) ?_
      exact ih x0 (x1 + x107) (x3 + 1) hP hS (lv_sub hl [2, 1, 0] rfl) h
set_option maxHeartbeats 4000000 in
set_option maxRecDepth 100000 in
theorem c_Ledger_bytesOfAll (l : Launch) (G : fm_G) (x0 : Nat) {v : Int64} {M M' : fm_M} (h : f_Ledger_bytesOfAll x0 M = some (v, M')) : kMet l y_Ledger_bytesOfAll b_Ledger_bytesOfAll 4 (some .long) rm_Ledger_bytesOfAll G M [.ref (G.2.2 + x0)] (some (.long v)) M' := by
  refine r_met (by decide) rfl (Nat.le_of_ble_eq_true rfl) (fun p e s m args below meth c C0 hP ls hl => ?_)
  have hx := C0.1
  have hb := C0.2.1
  have hl : lv_has ls 4 [(0, .ref (G.2.2 + x0))] := hl
  have hS : va_S (fm_A G.2.2) s.heap s.heap [] := va_S.rf
  unfold f_Ledger_bytesOfAll at h
  refine lv_lconst (v := 0) hx hb d_Ledger_bytesOfAll_0 lc_0 ?_
  refine lv_lstore_n (lv' := [(1, .long 0), (0, .ref (G.2.2 + x0))]) hx hb d_Ledger_bytesOfAll_1 rfl hl (by decide) rfl (fun ls hl => ?_)
  refine lv_iconst (v := 0) hx hb d_Ledger_bytesOfAll_2 ic_0 ?_
  refine lv_istore_n (lv' := [(3, .int 0), (1, .long 0), (0, .ref (G.2.2 + x0))]) hx hb d_Ledger_bytesOfAll_3 rfl hl (by decide) rfl (fun ls hl => ?_)
  exact w_Ledger_bytesOfAll_4 C0 100000 x0 0 0 hP hS (lv_sub hl [2, 1, 0] rfl) h
/-! AllocationProfiler$Ledger.shareOf -/
def rm_Ledger_shareOf : Room := { frames := 2, cells := 0, slots := 0, locals := 48 }
theorem d_Ledger_shareOf_0 : decode b_Ledger_shareOf 0 = .ok (.aload_n 0, 1) := by decide +kernel
theorem d_Ledger_shareOf_1 : decode b_Ledger_shareOf 1 = .ok (.invokevirtual 71, 3) := by decide +kernel
theorem d_Ledger_shareOf_4 : decode b_Ledger_shareOf 4 = .ok (.lstore_n 2, 1) := by decide +kernel
theorem d_Ledger_shareOf_5 : decode b_Ledger_shareOf 5 = .ok (.lload_n 2, 1) := by decide +kernel
theorem d_Ledger_shareOf_6 : decode b_Ledger_shareOf 6 = .ok (.lconst 0, 1) := by decide +kernel
theorem d_Ledger_shareOf_7 : decode b_Ledger_shareOf 7 = .ok (.lcmp, 1) := by decide +kernel
theorem d_Ledger_shareOf_8 : decode b_Ledger_shareOf 8 = .ok (.ifCond .ne 7, 3) := by decide +kernel
theorem d_Ledger_shareOf_11 : decode b_Ledger_shareOf 11 = .ok (.fconst 0, 1) := by decide +kernel
theorem d_Ledger_shareOf_12 : decode b_Ledger_shareOf 12 = .ok (.goto 13, 3) := by decide +kernel
theorem d_Ledger_shareOf_15 : decode b_Ledger_shareOf 15 = .ok (.aload_n 0, 1) := by decide +kernel
theorem d_Ledger_shareOf_16 : decode b_Ledger_shareOf 16 = .ok (.iload_n 1, 1) := by decide +kernel
theorem d_Ledger_shareOf_17 : decode b_Ledger_shareOf 17 = .ok (.iconst (-1), 1) := by decide +kernel
theorem d_Ledger_shareOf_18 : decode b_Ledger_shareOf 18 = .ok (.invokevirtual 75, 3) := by decide +kernel
theorem d_Ledger_shareOf_21 : decode b_Ledger_shareOf 21 = .ok (.l2f, 1) := by decide +kernel
theorem d_Ledger_shareOf_22 : decode b_Ledger_shareOf 22 = .ok (.lload_n 2, 1) := by decide +kernel
theorem d_Ledger_shareOf_23 : decode b_Ledger_shareOf 23 = .ok (.l2f, 1) := by decide +kernel
theorem d_Ledger_shareOf_24 : decode b_Ledger_shareOf 24 = .ok (.fdiv, 1) := by decide +kernel
theorem d_Ledger_shareOf_25 : decode b_Ledger_shareOf 25 = .ok (.freturn, 1) := by decide +kernel
def f_Ledger_shareOf (x0 : Nat) (x1 : Int32) (M : fm_M) : Option (UInt32 × fm_M) :=
  (ck x0 4).bind fun _ =>
  bd (f_Ledger_bytesOfAll x0 M) fun x104 M102 =>
  if (lg_cmp x104 0) = 0 then
    some (FP.fconst0, M102)
  else
    (ck x0 4).bind fun _ =>
    bd (f_Ledger_bytesOf x0 x1 (-1) M102) fun x109 M107 =>
    (nn32 (FP.fdiv (FP.l2f x109) (FP.l2f x104))).bind fun _ =>
    some ((FP.fdiv (FP.l2f x109) (FP.l2f x104)), M107)
set_option maxHeartbeats 4000000 in
set_option maxRecDepth 100000 in
theorem c_Ledger_shareOf (l : Launch) (G : fm_G) (x0 : Nat) (x1 : Int32) {v : UInt32} {M M' : fm_M} (h : f_Ledger_shareOf x0 x1 M = some (v, M')) : kMet l y_Ledger_shareOf b_Ledger_shareOf 4 (some .float) rm_Ledger_shareOf G M [.ref (G.2.2 + x0), .int x1] (some (.float v)) M' := by
  refine r_met (by decide) rfl (Nat.le_of_ble_eq_true rfl) (fun p e s m args below meth c C0 hP ls hl => ?_)
  have hx := C0.1
  have hb := C0.2.1
  have hl : lv_has ls 4 [(0, .ref (G.2.2 + x0)), (1, .int x1)] := hl
  have hS : va_S (fm_A G.2.2) s.heap s.heap [] := va_S.rf
  unfold f_Ledger_shareOf at h
  refine lv_aload_n hx hb d_Ledger_shareOf_0 rfl (lv_at hl 0 rfl) ?_
  obtain ⟨_, e101, h⟩ := ob h
  obtain ⟨x104, M102, e103, h⟩ := ob2 h
  refine k_cV C0 L_Ledger_71 (As := []) (c_Ledger_bytesOfAll l G x0 e103) ⟨rfl, rfl⟩ ⟨Nat.le_of_ble_eq_true rfl, Nat.le_of_ble_eq_true rfl⟩ hP hS (ck_of e101) ly_Ledger rfl hl.1 rfl (Nat.le_of_ble_eq_true rfl) d_Ledger_shareOf_1 ⟨Nat.zero_le _, Nat.zero_le _⟩ (fun H locs hP hS => ?_)
  refine lv_lstore_n (lv' := [(2, .long x104), (0, .ref (G.2.2 + x0)), (1, .int x1)]) hx hb d_Ledger_shareOf_4 rfl hl (by decide) rfl (fun ls hl => ?_)
  refine lv_lload_n hx hb d_Ledger_shareOf_5 rfl (lv_at hl 0 rfl) ?_
  refine lv_lconst (v := 0) hx hb d_Ledger_shareOf_6 lc_0 ?_
  refine W.lcmp hx hb d_Ledger_shareOf_7 ?_
  refine lv_if_ne (tgt := 15) hx hb d_Ledger_shareOf_8 (by decide) (fun c105 => ?_) (fun c105 => ?_)
  · rw [if_neg c105] at h
    refine lv_aload_n hx hb d_Ledger_shareOf_15 rfl (lv_at hl 1 rfl) ?_
    refine lv_iload_n hx hb d_Ledger_shareOf_16 rfl (lv_at hl 2 rfl) ?_
    refine lv_iconst (v := (-1)) hx hb d_Ledger_shareOf_17 ic_m1 ?_
    obtain ⟨_, e106, h⟩ := ob h
    obtain ⟨x109, M107, e108, h⟩ := ob2 h
    refine k_cV C0 L_Ledger_75 (As := [.int x1, .int (-1)]) (c_Ledger_bytesOf l G x0 x1 (-1) e108) ⟨rfl, rfl⟩ ⟨Nat.le_of_ble_eq_true rfl, Nat.le_of_ble_eq_true rfl⟩ hP hS (ck_of e106) ly_Ledger rfl hl.1 rfl (Nat.le_of_ble_eq_true rfl) d_Ledger_shareOf_18 ⟨Nat.zero_le _, Nat.zero_le _⟩ (fun H locs hP hS => ?_)
    refine lv_l2f hx hb d_Ledger_shareOf_21 ?_
    refine lv_lload_n hx hb d_Ledger_shareOf_22 rfl (lv_at hl 0 rfl) ?_
    refine lv_l2f hx hb d_Ledger_shareOf_23 ?_
    obtain ⟨_, e110, h⟩ := ob h
    refine lv_fdiv hx hb d_Ledger_shareOf_24 (nn32_of e110) ?_
    cases h
    exact r_fret C0 hP hS d_Ledger_shareOf_25
  · rw [if_pos c105] at h
    refine lv_fconst0 hx hb d_Ledger_shareOf_11 ?_
    refine lv_goto (tgt := 25) hx hb d_Ledger_shareOf_12 (by decide) ?_
    cases h
    exact r_fret C0 hP hS d_Ledger_shareOf_25
/-! AllocationProfiler$Ledger.samplesOfAll -/
def rm_Ledger_samplesOfAll : Room := { frames := 0, cells := 0, slots := 0, locals := 0 }
theorem d_Ledger_samplesOfAll_0 : decode b_Ledger_samplesOfAll 0 = .ok (.lconst 0, 1) := by decide +kernel
theorem d_Ledger_samplesOfAll_1 : decode b_Ledger_samplesOfAll 1 = .ok (.lstore_n 1, 1) := by decide +kernel
theorem d_Ledger_samplesOfAll_2 : decode b_Ledger_samplesOfAll 2 = .ok (.iconst 0, 1) := by decide +kernel
theorem d_Ledger_samplesOfAll_3 : decode b_Ledger_samplesOfAll 3 = .ok (.istore_n 3, 1) := by decide +kernel
theorem d_Ledger_samplesOfAll_4 : decode b_Ledger_samplesOfAll 4 = .ok (.iload_n 3, 1) := by decide +kernel
theorem d_Ledger_samplesOfAll_5 : decode b_Ledger_samplesOfAll 5 = .ok (.aload_n 0, 1) := by decide +kernel
theorem d_Ledger_samplesOfAll_6 : decode b_Ledger_samplesOfAll 6 = .ok (.getfield 45, 3) := by decide +kernel
theorem d_Ledger_samplesOfAll_9 : decode b_Ledger_samplesOfAll 9 = .ok (.if_icmp .ge 19, 3) := by decide +kernel
theorem d_Ledger_samplesOfAll_12 : decode b_Ledger_samplesOfAll 12 = .ok (.lload_n 1, 1) := by decide +kernel
theorem d_Ledger_samplesOfAll_13 : decode b_Ledger_samplesOfAll 13 = .ok (.aload_n 0, 1) := by decide +kernel
theorem d_Ledger_samplesOfAll_14 : decode b_Ledger_samplesOfAll 14 = .ok (.getfield 25, 3) := by decide +kernel
theorem d_Ledger_samplesOfAll_17 : decode b_Ledger_samplesOfAll 17 = .ok (.iload_n 3, 1) := by decide +kernel
theorem d_Ledger_samplesOfAll_18 : decode b_Ledger_samplesOfAll 18 = .ok (.iaload, 1) := by decide +kernel
theorem d_Ledger_samplesOfAll_19 : decode b_Ledger_samplesOfAll 19 = .ok (.i2l, 1) := by decide +kernel
theorem d_Ledger_samplesOfAll_20 : decode b_Ledger_samplesOfAll 20 = .ok (.ladd, 1) := by decide +kernel
theorem d_Ledger_samplesOfAll_21 : decode b_Ledger_samplesOfAll 21 = .ok (.lstore_n 1, 1) := by decide +kernel
theorem d_Ledger_samplesOfAll_22 : decode b_Ledger_samplesOfAll 22 = .ok (.iinc 3 1, 3) := by decide +kernel
theorem d_Ledger_samplesOfAll_25 : decode b_Ledger_samplesOfAll 25 = .ok (.goto (-21), 3) := by decide +kernel
theorem d_Ledger_samplesOfAll_28 : decode b_Ledger_samplesOfAll 28 = .ok (.lload_n 1, 1) := by decide +kernel
theorem d_Ledger_samplesOfAll_29 : decode b_Ledger_samplesOfAll 29 = .ok (.lreturn, 1) := by decide +kernel
def h_Ledger_samplesOfAll_4 : Nat → Nat → Int64 → Int32 → fm_M → Option (Int64 × fm_M)
  | 0, _, _, _, _ => none
  | n + 1, x0, x1, x3, M =>
    (gi x0 4 9 M).bind fun x101 =>
    if x101 ≤ x3 then
      some (x1, M)
    else
      (gr x0 4 3).bind fun q104 =>
      (ai q104 x3 M).bind fun x106 =>
      h_Ledger_samplesOfAll_4 n x0 (x1 + x106.toInt64) (x3 + 1) M
def f_Ledger_samplesOfAll (x0 : Nat) (M : fm_M) : Option (Int64 × fm_M) :=
  h_Ledger_samplesOfAll_4 100000 x0 0 0 M
set_option maxHeartbeats 4000000 in
set_option maxRecDepth 100000 in
theorem w_Ledger_samplesOfAll_4 {p : Program} {l : Launch} {e : Env} {s : State} {m : MethodId} {args : Array Value} {below : List Frame} {meth : Method} {c : Code} {G : fm_G} (C0 : fm_C p s m args meth c G (.code y_Ledger_samplesOfAll b_Ledger_samplesOfAll 4 (some .long)) "AllocationProfiler$Ledger" b_Ledger_samplesOfAll 4 (some .long)) {v : Int64} {M' : fm_M} : ∀ (n : Nat) (x0 : Nat) (x1 : Int64) (x3 : Int32) {M : fm_M} {H : Heap} {locs : List Loc}, kP G M H → kS G s H locs → ∀ {ls : Array Slot}, lv_has ls 4 [(0, .ref (G.2.2 + x0)), (1, .long x1), (3, .int x3)] → h_Ledger_samplesOfAll_4 n x0 x1 x3 M = some (v, M') → W p l e rm_Ledger_samplesOfAll s m args below meth c H locs 0 0 (MQ below (fm_Q G 212 shF (some (.long v)) M') args s 0 0 (fm_A G.2.2)) (F0 m 4 ls []) := by
  have hx := C0.1
  have hb := C0.2.1
  intro n
  induction n with
  | zero =>
    intro x0 x1 x3 M H locs hP hS ls hl h
    exact nomatch h
  | succ n ih =>
    intro x0 x1 x3 M H locs hP hS ls hl h
    have h : ((gi x0 4 9 M).bind fun x101 =>
      if x101 ≤ x3 then
        some (x1, M)
      else
        (gr x0 4 3).bind fun q104 =>
        (ai q104 x3 M).bind fun x106 =>
        h_Ledger_samplesOfAll_4 n x0 (x1 + x106.toInt64) (x3 + 1) M) = some (v, M') := h
    refine lv_iload_n hx hb d_Ledger_samplesOfAll_4 rfl (lv_at hl 2 rfl) ?_
    refine lv_aload_n hx hb d_Ledger_samplesOfAll_5 rfl (lv_at hl 0 rfl) ?_
    obtain ⟨x101, e102, h⟩ := ob h
    refine k_gi C0 F_Ledger_45 ik_4_9 hP e102 d_Ledger_samplesOfAll_6 ?_
    refine lv_icmp_ge (tgt := 28) hx hb d_Ledger_samplesOfAll_9 (by decide) (fun c103 => ?_) (fun c103 => ?_)
    · rw [if_pos c103] at h
      refine lv_lload_n hx hb d_Ledger_samplesOfAll_28 rfl (lv_at hl 1 rfl) ?_
      cases h
      exact r_lret C0 hP hS d_Ledger_samplesOfAll_29
    · rw [if_neg c103] at h
      refine lv_lload_n hx hb d_Ledger_samplesOfAll_12 rfl (lv_at hl 1 rfl) ?_
      refine lv_aload_n hx hb d_Ledger_samplesOfAll_13 rfl (lv_at hl 0 rfl) ?_
      obtain ⟨q104, e105, h⟩ := ob h
      refine k_gr C0 F_Ledger_25 hP e105 d_Ledger_samplesOfAll_14 ?_
      refine lv_iload_n hx hb d_Ledger_samplesOfAll_17 rfl (lv_at hl 2 rfl) ?_
      obtain ⟨x106, e107, h⟩ := ob h
      refine k_ai C0 hP e107 d_Ledger_samplesOfAll_18 ?_
      refine lv_i2l hx hb d_Ledger_samplesOfAll_19 rfl ?_
      refine lv_ladd hx hb d_Ledger_samplesOfAll_20 ?_
      refine lv_lstore_n (lv' := [(1, .long (x1 + x106.toInt64)), (0, .ref (G.2.2 + x0)), (3, .int x3)]) hx hb d_Ledger_samplesOfAll_21 rfl hl (by decide) rfl (fun ls hl => ?_)
      refine lv_iinc (v := (x3 + 1)) (lv' := [(3, .int (x3 + 1)), (1, .long (x1 + x106.toInt64)), (0, .ref (G.2.2 + x0))]) hx hb d_Ledger_samplesOfAll_22 hl (k := 2) rfl (congrArg (fun z => x3 + z) ic_1) (by decide) rfl (fun ls hl => ?_)
      refine lv_goto (tgt := 4) hx hb d_Ledger_samplesOfAll_25 (by decide) ?_
      exact ih x0 (x1 + x106.toInt64) (x3 + 1) hP hS (lv_sub hl [2, 1, 0] rfl) h
set_option maxHeartbeats 4000000 in
set_option maxRecDepth 100000 in
theorem c_Ledger_samplesOfAll (l : Launch) (G : fm_G) (x0 : Nat) {v : Int64} {M M' : fm_M} (h : f_Ledger_samplesOfAll x0 M = some (v, M')) : kMet l y_Ledger_samplesOfAll b_Ledger_samplesOfAll 4 (some .long) rm_Ledger_samplesOfAll G M [.ref (G.2.2 + x0)] (some (.long v)) M' := by
  refine r_met (by decide) rfl (Nat.le_of_ble_eq_true rfl) (fun p e s m args below meth c C0 hP ls hl => ?_)
  have hx := C0.1
  have hb := C0.2.1
  have hl : lv_has ls 4 [(0, .ref (G.2.2 + x0))] := hl
  have hS : va_S (fm_A G.2.2) s.heap s.heap [] := va_S.rf
  unfold f_Ledger_samplesOfAll at h
  refine lv_lconst (v := 0) hx hb d_Ledger_samplesOfAll_0 lc_0 ?_
  refine lv_lstore_n (lv' := [(1, .long 0), (0, .ref (G.2.2 + x0))]) hx hb d_Ledger_samplesOfAll_1 rfl hl (by decide) rfl (fun ls hl => ?_)
  refine lv_iconst (v := 0) hx hb d_Ledger_samplesOfAll_2 ic_0 ?_
  refine lv_istore_n (lv' := [(3, .int 0), (1, .long 0), (0, .ref (G.2.2 + x0))]) hx hb d_Ledger_samplesOfAll_3 rfl hl (by decide) rfl (fun ls hl => ?_)
  exact w_Ledger_samplesOfAll_4 C0 100000 x0 0 0 hP hS (lv_sub hl [2, 1, 0] rfl) h
/-! AllocationProfiler$Ledger.estimateOf -/
def rm_Ledger_estimateOf : Room := { frames := 2, cells := 0, slots := 0, locals := 48 }
theorem d_Ledger_estimateOf_0 : decode b_Ledger_estimateOf 0 = .ok (.aload_n 0, 1) := by decide +kernel
theorem d_Ledger_estimateOf_1 : decode b_Ledger_estimateOf 1 = .ok (.invokevirtual 79, 3) := by decide +kernel
theorem d_Ledger_estimateOf_4 : decode b_Ledger_estimateOf 4 = .ok (.lstore_n 2, 1) := by decide +kernel
theorem d_Ledger_estimateOf_5 : decode b_Ledger_estimateOf 5 = .ok (.lload_n 2, 1) := by decide +kernel
theorem d_Ledger_estimateOf_6 : decode b_Ledger_estimateOf 6 = .ok (.lconst 0, 1) := by decide +kernel
theorem d_Ledger_estimateOf_7 : decode b_Ledger_estimateOf 7 = .ok (.lcmp, 1) := by decide +kernel
theorem d_Ledger_estimateOf_8 : decode b_Ledger_estimateOf 8 = .ok (.ifCond .ne 7, 3) := by decide +kernel
theorem d_Ledger_estimateOf_11 : decode b_Ledger_estimateOf 11 = .ok (.dconst 0, 1) := by decide +kernel
theorem d_Ledger_estimateOf_12 : decode b_Ledger_estimateOf 12 = .ok (.goto 19, 3) := by decide +kernel
theorem d_Ledger_estimateOf_15 : decode b_Ledger_estimateOf 15 = .ok (.aload_n 0, 1) := by decide +kernel
theorem d_Ledger_estimateOf_16 : decode b_Ledger_estimateOf 16 = .ok (.getfield 25, 3) := by decide +kernel
theorem d_Ledger_estimateOf_19 : decode b_Ledger_estimateOf 19 = .ok (.iload_n 1, 1) := by decide +kernel
theorem d_Ledger_estimateOf_20 : decode b_Ledger_estimateOf 20 = .ok (.iaload, 1) := by decide +kernel
theorem d_Ledger_estimateOf_21 : decode b_Ledger_estimateOf 21 = .ok (.i2d, 1) := by decide +kernel
theorem d_Ledger_estimateOf_22 : decode b_Ledger_estimateOf 22 = .ok (.aload_n 0, 1) := by decide +kernel
theorem d_Ledger_estimateOf_23 : decode b_Ledger_estimateOf 23 = .ok (.invokevirtual 71, 3) := by decide +kernel
theorem d_Ledger_estimateOf_26 : decode b_Ledger_estimateOf 26 = .ok (.l2d, 1) := by decide +kernel
theorem d_Ledger_estimateOf_27 : decode b_Ledger_estimateOf 27 = .ok (.dmul, 1) := by decide +kernel
theorem d_Ledger_estimateOf_28 : decode b_Ledger_estimateOf 28 = .ok (.lload_n 2, 1) := by decide +kernel
theorem d_Ledger_estimateOf_29 : decode b_Ledger_estimateOf 29 = .ok (.l2d, 1) := by decide +kernel
theorem d_Ledger_estimateOf_30 : decode b_Ledger_estimateOf 30 = .ok (.ddiv, 1) := by decide +kernel
theorem d_Ledger_estimateOf_31 : decode b_Ledger_estimateOf 31 = .ok (.dreturn, 1) := by decide +kernel
def f_Ledger_estimateOf (x0 : Nat) (x1 : Int32) (M : fm_M) : Option (UInt64 × fm_M) :=
  (ck x0 4).bind fun _ =>
  bd (f_Ledger_samplesOfAll x0 M) fun x104 M102 =>
  if (lg_cmp x104 0) = 0 then
    some (FP.dconst0, M102)
  else
    (gr x0 4 3).bind fun q106 =>
    (ai q106 x1 M102).bind fun x108 =>
    (ck x0 4).bind fun _ =>
    bd (f_Ledger_bytesOfAll x0 M102) fun x113 M111 =>
    (nn64 (FP.dmul (FP.i2d x108) (FP.l2d x113))).bind fun _ =>
    (nn64 (FP.ddiv (FP.dmul (FP.i2d x108) (FP.l2d x113)) (FP.l2d x104))).bind fun _ =>
    some ((FP.ddiv (FP.dmul (FP.i2d x108) (FP.l2d x113)) (FP.l2d x104)), M111)
set_option maxHeartbeats 4000000 in
set_option maxRecDepth 100000 in
theorem c_Ledger_estimateOf (l : Launch) (G : fm_G) (x0 : Nat) (x1 : Int32) {v : UInt64} {M M' : fm_M} (h : f_Ledger_estimateOf x0 x1 M = some (v, M')) : kMet l y_Ledger_estimateOf b_Ledger_estimateOf 4 (some .double) rm_Ledger_estimateOf G M [.ref (G.2.2 + x0), .int x1] (some (.double v)) M' := by
  refine r_met (by decide) rfl (Nat.le_of_ble_eq_true rfl) (fun p e s m args below meth c C0 hP ls hl => ?_)
  have hx := C0.1
  have hb := C0.2.1
  have hl : lv_has ls 4 [(0, .ref (G.2.2 + x0)), (1, .int x1)] := hl
  have hS : va_S (fm_A G.2.2) s.heap s.heap [] := va_S.rf
  unfold f_Ledger_estimateOf at h
  refine lv_aload_n hx hb d_Ledger_estimateOf_0 rfl (lv_at hl 0 rfl) ?_
  obtain ⟨_, e101, h⟩ := ob h
  obtain ⟨x104, M102, e103, h⟩ := ob2 h
  refine k_cV C0 L_Ledger_79 (As := []) (c_Ledger_samplesOfAll l G x0 e103) ⟨rfl, rfl⟩ ⟨Nat.le_of_ble_eq_true rfl, Nat.le_of_ble_eq_true rfl⟩ hP hS (ck_of e101) ly_Ledger rfl hl.1 rfl (Nat.le_of_ble_eq_true rfl) d_Ledger_estimateOf_1 ⟨Nat.zero_le _, Nat.zero_le _⟩ (fun H locs hP hS => ?_)
  refine lv_lstore_n (lv' := [(2, .long x104), (0, .ref (G.2.2 + x0)), (1, .int x1)]) hx hb d_Ledger_estimateOf_4 rfl hl (by decide) rfl (fun ls hl => ?_)
  refine lv_lload_n hx hb d_Ledger_estimateOf_5 rfl (lv_at hl 0 rfl) ?_
  refine lv_lconst (v := 0) hx hb d_Ledger_estimateOf_6 lc_0 ?_
  refine W.lcmp hx hb d_Ledger_estimateOf_7 ?_
  refine lv_if_ne (tgt := 15) hx hb d_Ledger_estimateOf_8 (by decide) (fun c105 => ?_) (fun c105 => ?_)
  · rw [if_neg c105] at h
    refine lv_aload_n hx hb d_Ledger_estimateOf_15 rfl (lv_at hl 1 rfl) ?_
    obtain ⟨q106, e107, h⟩ := ob h
    refine k_gr C0 F_Ledger_25 hP e107 d_Ledger_estimateOf_16 ?_
    refine lv_iload_n hx hb d_Ledger_estimateOf_19 rfl (lv_at hl 2 rfl) ?_
    obtain ⟨x108, e109, h⟩ := ob h
    refine k_ai C0 hP e109 d_Ledger_estimateOf_20 ?_
    refine lv_i2d hx hb d_Ledger_estimateOf_21 ?_
    refine lv_aload_n hx hb d_Ledger_estimateOf_22 rfl (lv_at hl 1 rfl) ?_
    obtain ⟨_, e110, h⟩ := ob h
    obtain ⟨x113, M111, e112, h⟩ := ob2 h
    refine k_cV C0 L_Ledger_71 (As := []) (c_Ledger_bytesOfAll l G x0 e112) ⟨rfl, rfl⟩ ⟨Nat.le_of_ble_eq_true rfl, Nat.le_of_ble_eq_true rfl⟩ hP hS (ck_of e110) ly_Ledger rfl hl.1 rfl (Nat.le_of_ble_eq_true rfl) d_Ledger_estimateOf_23 ⟨Nat.zero_le _, Nat.zero_le _⟩ (fun H locs hP hS => ?_)
    refine lv_l2d hx hb d_Ledger_estimateOf_26 ?_
    obtain ⟨_, e114, h⟩ := ob h
    refine lv_dmul hx hb d_Ledger_estimateOf_27 (nn64_of e114) ?_
    refine lv_lload_n hx hb d_Ledger_estimateOf_28 rfl (lv_at hl 0 rfl) ?_
    refine lv_l2d hx hb d_Ledger_estimateOf_29 ?_
    obtain ⟨_, e115, h⟩ := ob h
    refine lv_ddiv hx hb d_Ledger_estimateOf_30 (nn64_of e115) ?_
    cases h
    exact r_dret C0 hP hS d_Ledger_estimateOf_31
  · rw [if_pos c105] at h
    refine lv_dconst0 hx hb d_Ledger_estimateOf_11 ?_
    refine lv_goto (tgt := 31) hx hb d_Ledger_estimateOf_12 (by decide) ?_
    cases h
    exact r_dret C0 hP hS d_Ledger_estimateOf_31
/-! AllocationProfiler$Machine.codeOf -/
def rm_Machine_codeOf : Room := { frames := 0, cells := 0, slots := 0, locals := 0 }
theorem d_Machine_codeOf_0 : decode b_Machine_codeOf 0 = .ok (.aload_n 0, 1) := by decide +kernel
theorem d_Machine_codeOf_1 : decode b_Machine_codeOf 1 = .ok (.getfield 20, 3) := by decide +kernel
theorem d_Machine_codeOf_4 : decode b_Machine_codeOf 4 = .ok (.aload_n 1, 1) := by decide +kernel
theorem d_Machine_codeOf_5 : decode b_Machine_codeOf 5 = .ok (.getfield 69, 3) := by decide +kernel
theorem d_Machine_codeOf_8 : decode b_Machine_codeOf 8 = .ok (.aaload, 1) := by decide +kernel
theorem d_Machine_codeOf_9 : decode b_Machine_codeOf 9 = .ok (.getfield 74, 3) := by decide +kernel
theorem d_Machine_codeOf_12 : decode b_Machine_codeOf 12 = .ok (.areturn, 1) := by decide +kernel
def f_Machine_codeOf (x0 : Nat) (x1 : Nat) (M : fm_M) : Option (Nat × fm_M) :=
  (gr x0 5 1).bind fun q101 =>
  (gi x1 2 2 M).bind fun x103 =>
  (ar q101 x103).bind fun q105 =>
  (gr q105 6 1).bind fun q107 =>
  some (q107, M)
set_option maxHeartbeats 4000000 in
set_option maxRecDepth 100000 in
theorem c_Machine_codeOf (l : Launch) (G : fm_G) (x0 : Nat) (x1 : Nat) {v : Nat} {M M' : fm_M} (h : f_Machine_codeOf x0 x1 M = some (v, M')) : kMet l y_Machine_codeOf b_Machine_codeOf 2 (some (.object "AllocationProfiler$Code")) rm_Machine_codeOf G M [.ref (G.2.2 + x0), .ref (G.2.2 + x1)] (some (.ref (G.2.2 + v))) M' := by
  refine r_met (by decide) rfl (Nat.le_of_ble_eq_true rfl) (fun p e s m args below meth c C0 hP ls hl => ?_)
  have hx := C0.1
  have hb := C0.2.1
  have hl : lv_has ls 2 [(0, .ref (G.2.2 + x0)), (1, .ref (G.2.2 + x1))] := hl
  have hS : va_S (fm_A G.2.2) s.heap s.heap [] := va_S.rf
  unfold f_Machine_codeOf at h
  refine lv_aload_n hx hb d_Machine_codeOf_0 rfl (lv_at hl 0 rfl) ?_
  obtain ⟨q101, e102, h⟩ := ob h
  refine k_gr C0 F_Machine_20 hP e102 d_Machine_codeOf_1 ?_
  refine lv_aload_n hx hb d_Machine_codeOf_4 rfl (lv_at hl 1 rfl) ?_
  obtain ⟨x103, e104, h⟩ := ob h
  refine k_gi C0 F_Machine_69 ik_2_2 hP e104 d_Machine_codeOf_5 ?_
  obtain ⟨q105, e106, h⟩ := ob h
  refine k_ar C0 hP e106 d_Machine_codeOf_8 ?_
  obtain ⟨q107, e108, h⟩ := ob h
  refine k_gr C0 F_Machine_74 hP e108 d_Machine_codeOf_9 ?_
  cases h
  exact r_aret C0 hP hS d_Machine_codeOf_12
