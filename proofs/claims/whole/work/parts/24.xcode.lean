/-! AllocationProfiler.type -/
theorem d_AP_type_0 : decode b_AP_type 0 = .ok (.iload_n 1, 1) := by decide +kernel
theorem d_AP_type_1 : decode b_AP_type 1 = .ok (.iconst (-1), 1) := by decide +kernel
theorem d_AP_type_2 : decode b_AP_type 2 = .ok (.if_icmp .eq 24, 3) := by decide +kernel
theorem d_AP_type_5 : decode b_AP_type 5 = .ok (.aload_n 0, 1) := by decide +kernel
theorem d_AP_type_6 : decode b_AP_type 6 = .ok (.getfield 20, 3) := by decide +kernel
theorem d_AP_type_9 : decode b_AP_type 9 = .ok (.iload_n 1, 1) := by decide +kernel
theorem d_AP_type_10 : decode b_AP_type 10 = .ok (.invokevirtual 63, 3) := by decide +kernel
theorem d_AP_type_13 : decode b_AP_type 13 = .ok (.ifCond .ne 13, 3) := by decide +kernel
theorem d_AP_type_16 : decode b_AP_type 16 = .ok (.new 69, 3) := by decide +kernel
theorem d_AP_type_19 : decode b_AP_type 19 = .ok (.dup, 1) := by decide +kernel
theorem d_AP_type_20 : decode b_AP_type 20 = .ok (.ldc 71, 2) := by decide +kernel
theorem d_AP_type_22 : decode b_AP_type 22 = .ok (.invokespecial 73, 3) := by decide +kernel
theorem d_AP_type_25 : decode b_AP_type 25 = .ok (.athrow, 1) := by decide +kernel
theorem d_AP_type_26 : decode b_AP_type 26 = .ok (.iload_n 2, 1) := by decide +kernel
theorem d_AP_type_27 : decode b_AP_type 27 = .ok (.invokestatic 76, 3) := by decide +kernel
theorem d_AP_type_30 : decode b_AP_type 30 = .ok (.ifCond .eq 26, 3) := by decide +kernel
theorem d_AP_type_33 : decode b_AP_type 33 = .ok (.iload_n 3, 1) := by decide +kernel
theorem d_AP_type_34 : decode b_AP_type 34 = .ok (.invokestatic 76, 3) := by decide +kernel
theorem d_AP_type_37 : decode b_AP_type 37 = .ok (.ifCond .eq 19, 3) := by decide +kernel
theorem d_AP_type_40 : decode b_AP_type 40 = .ok (.iload 4, 2) := by decide +kernel
theorem d_AP_type_42 : decode b_AP_type 42 = .ok (.invokestatic 76, 3) := by decide +kernel
theorem d_AP_type_45 : decode b_AP_type 45 = .ok (.ifCond .eq 11, 3) := by decide +kernel
theorem d_AP_type_48 : decode b_AP_type 48 = .ok (.iload 5, 2) := by decide +kernel
theorem d_AP_type_50 : decode b_AP_type 50 = .ok (.invokestatic 76, 3) := by decide +kernel
theorem d_AP_type_53 : decode b_AP_type 53 = .ok (.ifCond .ne 13, 3) := by decide +kernel
theorem d_AP_type_56 : decode b_AP_type 56 = .ok (.new 69, 3) := by decide +kernel
theorem d_AP_type_59 : decode b_AP_type 59 = .ok (.dup, 1) := by decide +kernel
theorem d_AP_type_60 : decode b_AP_type 60 = .ok (.ldc 79, 2) := by decide +kernel
theorem d_AP_type_62 : decode b_AP_type 62 = .ok (.invokespecial 73, 3) := by decide +kernel
theorem d_AP_type_65 : decode b_AP_type 65 = .ok (.athrow, 1) := by decide +kernel
theorem d_AP_type_66 : decode b_AP_type 66 = .ok (.aload_n 0, 1) := by decide +kernel
theorem d_AP_type_67 : decode b_AP_type 67 = .ok (.getfield 59, 3) := by decide +kernel
theorem d_AP_type_70 : decode b_AP_type 70 = .ok (.ifCond .ne 13, 3) := by decide +kernel
theorem d_AP_type_73 : decode b_AP_type 73 = .ok (.aload_n 0, 1) := by decide +kernel
theorem d_AP_type_74 : decode b_AP_type 74 = .ok (.getfield 20, 3) := by decide +kernel
theorem d_AP_type_77 : decode b_AP_type 77 = .ok (.invokevirtual 81, 3) := by decide +kernel
theorem d_AP_type_80 : decode b_AP_type 80 = .ok (.ifCond .eq 13, 3) := by decide +kernel
theorem d_AP_type_83 : decode b_AP_type 83 = .ok (.new 85, 3) := by decide +kernel
theorem d_AP_type_86 : decode b_AP_type 86 = .ok (.dup, 1) := by decide +kernel
theorem d_AP_type_87 : decode b_AP_type 87 = .ok (.ldc 87, 2) := by decide +kernel
theorem d_AP_type_89 : decode b_AP_type 89 = .ok (.invokespecial 89, 3) := by decide +kernel
theorem d_AP_type_92 : decode b_AP_type 92 = .ok (.athrow, 1) := by decide +kernel
theorem d_AP_type_93 : decode b_AP_type 93 = .ok (.aload_n 0, 1) := by decide +kernel
theorem d_AP_type_94 : decode b_AP_type 94 = .ok (.getfield 20, 3) := by decide +kernel
theorem d_AP_type_97 : decode b_AP_type 97 = .ok (.iload_n 1, 1) := by decide +kernel
theorem d_AP_type_98 : decode b_AP_type 98 = .ok (.iload_n 2, 1) := by decide +kernel
theorem d_AP_type_99 : decode b_AP_type 99 = .ok (.iload_n 3, 1) := by decide +kernel
theorem d_AP_type_100 : decode b_AP_type 100 = .ok (.iload 4, 2) := by decide +kernel
theorem d_AP_type_102 : decode b_AP_type 102 = .ok (.iload 5, 2) := by decide +kernel
theorem d_AP_type_104 : decode b_AP_type 104 = .ok (.invokevirtual 90, 3) := by decide +kernel
theorem d_AP_type_107 : decode b_AP_type 107 = .ok (.ireturn, 1) := by decide +kernel
def j_AP_type_56  (M : fm_M) : Option ((Int32 ⊕ String) × fm_M) :=
  some (.inr "java/lang/IllegalArgumentException", M)
def j_AP_type_83  (M : fm_M) : Option ((Int32 ⊕ String) × fm_M) :=
  some (.inr "java/lang/IllegalStateException", M)
def j_AP_type_26 (x0 : Nat) (x1 : Int32) (x2 : Int32) (x3 : Int32) (x4 : Int32) (x5 : Int32) (M : fm_M) : Option ((Int32 ⊕ String) × fm_M) :=
  bd (f_AP_isFieldCount x2 M) fun x103 M101 =>
  if x103 = 0 then
    j_AP_type_56 M101
  else
    bd (f_AP_isFieldCount x3 M101) fun x107 M105 =>
    if x107 = 0 then
      j_AP_type_56 M105
    else
      bd (f_AP_isFieldCount x4 M105) fun x111 M109 =>
      if x111 = 0 then
        j_AP_type_56 M109
      else
        bd (f_AP_isFieldCount x5 M109) fun x115 M113 =>
        if x115 = 0 then
          j_AP_type_56 M113
        else
          (gi x0 9 9 M113).bind fun x117 =>
          if x117 = 0 then
            (gr x0 9 1).bind fun q120 =>
            (ck q120 8).bind fun _ =>
            bd (f_Types_isFull q120 M113) fun x125 M123 =>
            if x125 = 0 then
              (gr x0 9 1).bind fun q127 =>
              (ck q127 8).bind fun _ =>
              bd (f_Types_add q127 x1 x2 x3 x4 x5 M123) fun x132 M130 =>
              some (.inl x132, M130)
            else
              j_AP_type_83 M123
          else
            j_AP_type_83 M113
def f_AP_type (x0 : Nat) (x1 : Int32) (x2 : Int32) (x3 : Int32) (x4 : Int32) (x5 : Int32) (M : fm_M) : Option ((Int32 ⊕ String) × fm_M) :=
  if x1 = (-1) then
    j_AP_type_26 x0 x1 x2 x3 x4 x5 M
  else
    (gr x0 9 1).bind fun q134 =>
    (ck q134 8).bind fun _ =>
    bd (f_Types_has q134 x1 M) fun x139 M137 =>
    if x139 = 0 then
      some (.inr "java/lang/IllegalArgumentException", M137)
    else
      j_AP_type_26 x0 x1 x2 x3 x4 x5 M137
set_option maxHeartbeats 4000000 in
set_option maxRecDepth 100000 in
theorem w_AP_type_56 {p : Program} {l : Launch} {e : Env} {s : State} {m : MethodId} {args : Array Value} {below : List Frame} {meth : Method} {c : Code} {G : fm_G} (C0 : fm_C p s m args meth c G (.code y_AP_type b_AP_type 6 (some .int)) "AllocationProfiler" b_AP_type 6 (some .int)) (C1 : fx_C l s c G) {v : Int32 ⊕ String} {M' : fm_M}  {M : fm_M} {H : Heap} {locs : List Loc} (hP : kP G M H) (hS : kS G s H locs) {ls : Array Slot} (hl : lv_has ls 6 []) (h : j_AP_type_56  M = some (v, M')) : W p l e (fx_rm 6 90 (xoI v)) s m args below meth c H locs 0 0 (vx_MQ below (fx_Q G (xoI v) M') (fx_X G (xoI v) M') args s (fx_c (xoI v)) (fx_s (xoI v)) (fm_A G.2.2)) (F0 m 56 ls []) := by
  have hx := C0.1
  have hb := C0.2.1
  have hown := C0.2.2.2.2.1
  have hts := C0.2.2.2.2.2.1
  unfold j_AP_type_56 at h
  cases h
  exact x_throw C0 C1 T_IllegalArgumentException (text := "0 to 3 fields of a kind") (by decide) hP hS hl.1 d_AP_type_56 d_AP_type_59 d_AP_type_60 d_AP_type_62 d_AP_type_65 (Nat.le_of_ble_eq_true rfl) (Nat.le_of_ble_eq_true rfl) (Nat.le_refl 1) (Nat.le_refl 6)
set_option maxHeartbeats 4000000 in
set_option maxRecDepth 100000 in
theorem w_AP_type_83 {p : Program} {l : Launch} {e : Env} {s : State} {m : MethodId} {args : Array Value} {below : List Frame} {meth : Method} {c : Code} {G : fm_G} (C0 : fm_C p s m args meth c G (.code y_AP_type b_AP_type 6 (some .int)) "AllocationProfiler" b_AP_type 6 (some .int)) (C1 : fx_C l s c G) {v : Int32 ⊕ String} {M' : fm_M}  {M : fm_M} {H : Heap} {locs : List Loc} (hP : kP G M H) (hS : kS G s H locs) {ls : Array Slot} (hl : lv_has ls 6 []) (h : j_AP_type_83  M = some (v, M')) : W p l e (fx_rm 6 90 (xoI v)) s m args below meth c H locs 0 0 (vx_MQ below (fx_Q G (xoI v) M') (fx_X G (xoI v) M') args s (fx_c (xoI v)) (fx_s (xoI v)) (fm_A G.2.2)) (F0 m 83 ls []) := by
  have hx := C0.1
  have hb := C0.2.1
  have hown := C0.2.2.2.2.1
  have hts := C0.2.2.2.2.2.1
  unfold j_AP_type_83 at h
  cases h
  exact x_throw C0 C1 T_IllegalStateException (text := "no more types") (by decide) hP hS hl.1 d_AP_type_83 d_AP_type_86 d_AP_type_87 d_AP_type_89 d_AP_type_92 (Nat.le_of_ble_eq_true rfl) (Nat.le_of_ble_eq_true rfl) (Nat.le_refl 1) (Nat.le_refl 6)
set_option maxHeartbeats 4000000 in
set_option maxRecDepth 100000 in
theorem w_AP_type_26 {p : Program} {l : Launch} {e : Env} {s : State} {m : MethodId} {args : Array Value} {below : List Frame} {meth : Method} {c : Code} {G : fm_G} (C0 : fm_C p s m args meth c G (.code y_AP_type b_AP_type 6 (some .int)) "AllocationProfiler" b_AP_type 6 (some .int)) (C1 : fx_C l s c G) {v : Int32 ⊕ String} {M' : fm_M} (x0 : Nat) (x1 : Int32) (x2 : Int32) (x3 : Int32) (x4 : Int32) (x5 : Int32) {M : fm_M} {H : Heap} {locs : List Loc} (hP : kP G M H) (hS : kS G s H locs) {ls : Array Slot} (hl : lv_has ls 6 [(0, .ref (G.2.2 + x0)), (1, .int x1), (2, .int x2), (3, .int x3), (4, .int x4), (5, .int x5)]) (h : j_AP_type_26 x0 x1 x2 x3 x4 x5 M = some (v, M')) : W p l e (fx_rm 6 90 (xoI v)) s m args below meth c H locs 0 0 (vx_MQ below (fx_Q G (xoI v) M') (fx_X G (xoI v) M') args s (fx_c (xoI v)) (fx_s (xoI v)) (fm_A G.2.2)) (F0 m 26 ls []) := by
  have hx := C0.1
  have hb := C0.2.1
  have hown := C0.2.2.2.2.1
  have hts := C0.2.2.2.2.2.1
  unfold j_AP_type_26 at h
  refine lv_iload_n hx hb d_AP_type_26 rfl (lv_at hl 2 rfl) ?_
  obtain ⟨x103, M101, e102, h⟩ := ob2 h
  refine k_cS C0 L_AP_76 (As := [.int x2]) (c_AP_isFieldCount l G x2 e102) ⟨rfl, rfl⟩ ⟨Nat.le_of_ble_eq_true rfl, Nat.le_of_ble_eq_true rfl⟩ hP hS rfl hl.1 rfl (Nat.le_of_ble_eq_true rfl) d_AP_type_27 ⟨Nat.zero_le _, Nat.zero_le _⟩ (fun H locs hP hS => ?_)
  refine lv_if_eq (tgt := 56) hx hb d_AP_type_30 (by decide) (fun c104 => ?_) (fun c104 => ?_)
  · rw [if_pos c104] at h
    exact w_AP_type_56 C0 C1 hP hS (lv_sub hl [] rfl) h
  · rw [if_neg c104] at h
    refine lv_iload_n hx hb d_AP_type_33 rfl (lv_at hl 3 rfl) ?_
    obtain ⟨x107, M105, e106, h⟩ := ob2 h
    refine k_cS C0 L_AP_76 (As := [.int x3]) (c_AP_isFieldCount l G x3 e106) ⟨rfl, rfl⟩ ⟨Nat.le_of_ble_eq_true rfl, Nat.le_of_ble_eq_true rfl⟩ hP hS rfl hl.1 rfl (Nat.le_of_ble_eq_true rfl) d_AP_type_34 ⟨Nat.zero_le _, Nat.zero_le _⟩ (fun H locs hP hS => ?_)
    refine lv_if_eq (tgt := 56) hx hb d_AP_type_37 (by decide) (fun c108 => ?_) (fun c108 => ?_)
    · rw [if_pos c108] at h
      exact w_AP_type_56 C0 C1 hP hS (lv_sub hl [] rfl) h
    · rw [if_neg c108] at h
      refine lv_iload hx hb d_AP_type_40 (lv_at hl 4 rfl) ?_
      obtain ⟨x111, M109, e110, h⟩ := ob2 h
      refine k_cS C0 L_AP_76 (As := [.int x4]) (c_AP_isFieldCount l G x4 e110) ⟨rfl, rfl⟩ ⟨Nat.le_of_ble_eq_true rfl, Nat.le_of_ble_eq_true rfl⟩ hP hS rfl hl.1 rfl (Nat.le_of_ble_eq_true rfl) d_AP_type_42 ⟨Nat.zero_le _, Nat.zero_le _⟩ (fun H locs hP hS => ?_)
      refine lv_if_eq (tgt := 56) hx hb d_AP_type_45 (by decide) (fun c112 => ?_) (fun c112 => ?_)
      · rw [if_pos c112] at h
        exact w_AP_type_56 C0 C1 hP hS (lv_sub hl [] rfl) h
      · rw [if_neg c112] at h
        refine lv_iload hx hb d_AP_type_48 (lv_at hl 5 rfl) ?_
        obtain ⟨x115, M113, e114, h⟩ := ob2 h
        refine k_cS C0 L_AP_76 (As := [.int x5]) (c_AP_isFieldCount l G x5 e114) ⟨rfl, rfl⟩ ⟨Nat.le_of_ble_eq_true rfl, Nat.le_of_ble_eq_true rfl⟩ hP hS rfl hl.1 rfl (Nat.le_of_ble_eq_true rfl) d_AP_type_50 ⟨Nat.zero_le _, Nat.zero_le _⟩ (fun H locs hP hS => ?_)
        refine lv_if_ne (tgt := 66) hx hb d_AP_type_53 (by decide) (fun c116 => ?_) (fun c116 => ?_)
        · rw [if_neg c116] at h
          refine lv_aload_n hx hb d_AP_type_66 rfl (lv_at hl 0 rfl) ?_
          obtain ⟨x117, e118, h⟩ := ob h
          refine k_gi C0 F_AP_59 ik_9_9 hP e118 d_AP_type_67 ?_
          refine lv_if_ne (tgt := 83) hx hb d_AP_type_70 (by decide) (fun c119 => ?_) (fun c119 => ?_)
          · rw [if_neg c119] at h
            exact w_AP_type_83 C0 C1 hP hS (lv_sub hl [] rfl) h
          · rw [if_pos c119] at h
            refine lv_aload_n hx hb d_AP_type_73 rfl (lv_at hl 0 rfl) ?_
            obtain ⟨q120, e121, h⟩ := ob h
            refine k_gr C0 F_AP_20 hP e121 d_AP_type_74 ?_
            obtain ⟨_, e122, h⟩ := ob h
            obtain ⟨x125, M123, e124, h⟩ := ob2 h
            refine k_cV C0 L_AP_81 (As := []) (c_Types_isFull l G q120 e124) ⟨rfl, rfl⟩ ⟨Nat.le_of_ble_eq_true rfl, Nat.le_of_ble_eq_true rfl⟩ hP hS (ck_of e122) ly_Types rfl hl.1 rfl (Nat.le_of_ble_eq_true rfl) d_AP_type_77 ⟨Nat.zero_le _, Nat.zero_le _⟩ (fun H locs hP hS => ?_)
            refine lv_if_eq (tgt := 93) hx hb d_AP_type_80 (by decide) (fun c126 => ?_) (fun c126 => ?_)
            · rw [if_pos c126] at h
              refine lv_aload_n hx hb d_AP_type_93 rfl (lv_at hl 0 rfl) ?_
              obtain ⟨q127, e128, h⟩ := ob h
              refine k_gr C0 F_AP_20 hP e128 d_AP_type_94 ?_
              refine lv_iload_n hx hb d_AP_type_97 rfl (lv_at hl 1 rfl) ?_
              refine lv_iload_n hx hb d_AP_type_98 rfl (lv_at hl 2 rfl) ?_
              refine lv_iload_n hx hb d_AP_type_99 rfl (lv_at hl 3 rfl) ?_
              refine lv_iload hx hb d_AP_type_100 (lv_at hl 4 rfl) ?_
              refine lv_iload hx hb d_AP_type_102 (lv_at hl 5 rfl) ?_
              obtain ⟨_, e129, h⟩ := ob h
              obtain ⟨x132, M130, e131, h⟩ := ob2 h
              refine k_cV C0 L_AP_90 (As := [.int x1, .int x2, .int x3, .int x4, .int x5]) (c_Types_add l G q127 x1 x2 x3 x4 x5 e131) ⟨rfl, rfl⟩ ⟨Nat.le_of_ble_eq_true rfl, Nat.le_of_ble_eq_true rfl⟩ hP hS (ck_of e129) ly_Types rfl hl.1 rfl (Nat.le_of_ble_eq_true rfl) d_AP_type_104 ⟨Nat.zero_le _, Nat.zero_le _⟩ (fun H locs hP hS => ?_)
              cases h
              exact x_ret (r_iret C0 hP hS d_AP_type_107)
            · rw [if_neg c126] at h
              exact w_AP_type_83 C0 C1 hP hS (lv_sub hl [] rfl) h
        · rw [if_pos c116] at h
          exact w_AP_type_56 C0 C1 hP hS (lv_sub hl [] rfl) h
set_option maxHeartbeats 4000000 in
set_option maxRecDepth 100000 in
theorem c_AP_type (l : Launch) (hst : l.stackTraces = false) (G : fm_G) (x0 : Nat) (x1 : Int32) (x2 : Int32) (x3 : Int32) (x4 : Int32) (x5 : Int32) {v : Int32 ⊕ String} {M M' : fm_M} (h : f_AP_type x0 x1 x2 x3 x4 x5 M = some (v, M')) : kxMet l y_AP_type b_AP_type 6 (some .int) 6 90 G M [.ref (G.2.2 + x0), .int x1, .int x2, .int x3, .int x4, .int x5] (xoI v) M' := by
  refine x_met hst (by decide) rfl (Nat.le_of_ble_eq_true rfl) (fun p e s m args below meth c C0 C1 hP ls hl => ?_)
  have hx := C0.1
  have hb := C0.2.1
  have hown := C0.2.2.2.2.1
  have hts := C0.2.2.2.2.2.1
  have hl : lv_has ls 6 [(0, .ref (G.2.2 + x0)), (1, .int x1), (2, .int x2), (3, .int x3), (4, .int x4), (5, .int x5)] := hl
  have hS : va_S (fm_A G.2.2) s.heap s.heap [] := va_S.rf
  unfold f_AP_type at h
  refine lv_iload_n hx hb d_AP_type_0 rfl (lv_at hl 1 rfl) ?_
  refine lv_iconst (v := (-1)) hx hb d_AP_type_1 ic_m1 ?_
  refine lv_icmp_eq (tgt := 26) hx hb d_AP_type_2 (by decide) (fun c133 => ?_) (fun c133 => ?_)
  · rw [if_pos c133] at h
    exact w_AP_type_26 C0 C1 x0 x1 x2 x3 x4 x5 hP hS (lv_sub hl [0, 1, 2, 3, 4, 5] rfl) h
  · rw [if_neg c133] at h
    refine lv_aload_n hx hb d_AP_type_5 rfl (lv_at hl 0 rfl) ?_
    obtain ⟨q134, e135, h⟩ := ob h
    refine k_gr C0 F_AP_20 hP e135 d_AP_type_6 ?_
    refine lv_iload_n hx hb d_AP_type_9 rfl (lv_at hl 1 rfl) ?_
    obtain ⟨_, e136, h⟩ := ob h
    obtain ⟨x139, M137, e138, h⟩ := ob2 h
    refine k_cV C0 L_AP_63 (As := [.int x1]) (c_Types_has l G q134 x1 e138) ⟨rfl, rfl⟩ ⟨Nat.le_of_ble_eq_true rfl, Nat.le_of_ble_eq_true rfl⟩ hP hS (ck_of e136) ly_Types rfl hl.1 rfl (Nat.le_of_ble_eq_true rfl) d_AP_type_10 ⟨Nat.zero_le _, Nat.zero_le _⟩ (fun H locs hP hS => ?_)
    refine lv_if_ne (tgt := 26) hx hb d_AP_type_13 (by decide) (fun c140 => ?_) (fun c140 => ?_)
    · rw [if_neg c140] at h
      exact w_AP_type_26 C0 C1 x0 x1 x2 x3 x4 x5 hP hS (lv_sub hl [0, 1, 2, 3, 4, 5] rfl) h
    · rw [if_pos c140] at h
      cases h
      exact x_throw C0 C1 T_IllegalArgumentException (text := "no such parent") (by decide) hP hS hl.1 d_AP_type_16 d_AP_type_19 d_AP_type_20 d_AP_type_22 d_AP_type_25 (Nat.le_of_ble_eq_true rfl) (Nat.le_of_ble_eq_true rfl) (Nat.le_refl 1) (Nat.le_refl 6)
/-! AllocationProfiler.size -/
theorem d_AP_size_0 : decode b_AP_size 0 = .ok (.aload_n 0, 1) := by decide +kernel
theorem d_AP_size_1 : decode b_AP_size 1 = .ok (.getfield 20, 3) := by decide +kernel
theorem d_AP_size_4 : decode b_AP_size 4 = .ok (.iload_n 1, 1) := by decide +kernel
theorem d_AP_size_5 : decode b_AP_size 5 = .ok (.invokevirtual 63, 3) := by decide +kernel
theorem d_AP_size_8 : decode b_AP_size 8 = .ok (.ifCond .ne 13, 3) := by decide +kernel
theorem d_AP_size_11 : decode b_AP_size 11 = .ok (.new 69, 3) := by decide +kernel
theorem d_AP_size_14 : decode b_AP_size 14 = .ok (.dup, 1) := by decide +kernel
theorem d_AP_size_15 : decode b_AP_size 15 = .ok (.ldc 94, 2) := by decide +kernel
theorem d_AP_size_17 : decode b_AP_size 17 = .ok (.invokespecial 73, 3) := by decide +kernel
theorem d_AP_size_20 : decode b_AP_size 20 = .ok (.athrow, 1) := by decide +kernel
theorem d_AP_size_21 : decode b_AP_size 21 = .ok (.aload_n 0, 1) := by decide +kernel
theorem d_AP_size_22 : decode b_AP_size 22 = .ok (.getfield 20, 3) := by decide +kernel
theorem d_AP_size_25 : decode b_AP_size 25 = .ok (.iload_n 1, 1) := by decide +kernel
theorem d_AP_size_26 : decode b_AP_size 26 = .ok (.invokevirtual 96, 3) := by decide +kernel
theorem d_AP_size_29 : decode b_AP_size 29 = .ok (.ireturn, 1) := by decide +kernel
def f_AP_size (x0 : Nat) (x1 : Int32) (M : fm_M) : Option ((Int32 ⊕ String) × fm_M) :=
  (gr x0 9 1).bind fun q101 =>
  (ck q101 8).bind fun _ =>
  bd (f_Types_has q101 x1 M) fun x106 M104 =>
  if x106 = 0 then
    some (.inr "java/lang/IllegalArgumentException", M104)
  else
    (gr x0 9 1).bind fun q108 =>
    (ck q108 8).bind fun _ =>
    bd (f_Types_sizeOf q108 x1 M104) fun x113 M111 =>
    some (.inl x113, M111)
set_option maxHeartbeats 4000000 in
set_option maxRecDepth 100000 in
theorem c_AP_size (l : Launch) (hst : l.stackTraces = false) (G : fm_G) (x0 : Nat) (x1 : Int32) {v : Int32 ⊕ String} {M M' : fm_M} (h : f_AP_size x0 x1 M = some (v, M')) : kxMet l y_AP_size b_AP_size 2 (some .int) 6 90 G M [.ref (G.2.2 + x0), .int x1] (xoI v) M' := by
  refine x_met hst (by decide) rfl (Nat.le_of_ble_eq_true rfl) (fun p e s m args below meth c C0 C1 hP ls hl => ?_)
  have hx := C0.1
  have hb := C0.2.1
  have hown := C0.2.2.2.2.1
  have hts := C0.2.2.2.2.2.1
  have hl : lv_has ls 2 [(0, .ref (G.2.2 + x0)), (1, .int x1)] := hl
  have hS : va_S (fm_A G.2.2) s.heap s.heap [] := va_S.rf
  unfold f_AP_size at h
  refine lv_aload_n hx hb d_AP_size_0 rfl (lv_at hl 0 rfl) ?_
  obtain ⟨q101, e102, h⟩ := ob h
  refine k_gr C0 F_AP_20 hP e102 d_AP_size_1 ?_
  refine lv_iload_n hx hb d_AP_size_4 rfl (lv_at hl 1 rfl) ?_
  obtain ⟨_, e103, h⟩ := ob h
  obtain ⟨x106, M104, e105, h⟩ := ob2 h
  refine k_cV C0 L_AP_63 (As := [.int x1]) (c_Types_has l G q101 x1 e105) ⟨rfl, rfl⟩ ⟨Nat.le_of_ble_eq_true rfl, Nat.le_of_ble_eq_true rfl⟩ hP hS (ck_of e103) ly_Types rfl hl.1 rfl (Nat.le_of_ble_eq_true rfl) d_AP_size_5 ⟨Nat.zero_le _, Nat.zero_le _⟩ (fun H locs hP hS => ?_)
  refine lv_if_ne (tgt := 21) hx hb d_AP_size_8 (by decide) (fun c107 => ?_) (fun c107 => ?_)
  · rw [if_neg c107] at h
    refine lv_aload_n hx hb d_AP_size_21 rfl (lv_at hl 0 rfl) ?_
    obtain ⟨q108, e109, h⟩ := ob h
    refine k_gr C0 F_AP_20 hP e109 d_AP_size_22 ?_
    refine lv_iload_n hx hb d_AP_size_25 rfl (lv_at hl 1 rfl) ?_
    obtain ⟨_, e110, h⟩ := ob h
    obtain ⟨x113, M111, e112, h⟩ := ob2 h
    refine k_cV C0 L_AP_96 (As := [.int x1]) (c_Types_sizeOf l G q108 x1 e112) ⟨rfl, rfl⟩ ⟨Nat.le_of_ble_eq_true rfl, Nat.le_of_ble_eq_true rfl⟩ hP hS (ck_of e110) ly_Types rfl hl.1 rfl (Nat.le_of_ble_eq_true rfl) d_AP_size_26 ⟨Nat.zero_le _, Nat.zero_le _⟩ (fun H locs hP hS => ?_)
    cases h
    exact x_ret (r_iret C0 hP hS d_AP_size_29)
  · rw [if_pos c107] at h
    cases h
    exact x_throw C0 C1 T_IllegalArgumentException (text := "no such type") (by decide) hP hS hl.1 d_AP_size_11 d_AP_size_14 d_AP_size_15 d_AP_size_17 d_AP_size_20 (Nat.le_of_ble_eq_true rfl) (Nat.le_of_ble_eq_true rfl) (Nat.le_refl 1) (Nat.le_refl 6)
/-! AllocationProfiler.draft -/
theorem d_AP_draft_0 : decode b_AP_draft 0 = .ok (.iload_n 1, 1) := by decide +kernel
theorem d_AP_draft_1 : decode b_AP_draft 1 = .ok (.ifCond .lt 9, 3) := by decide +kernel
theorem d_AP_draft_4 : decode b_AP_draft 4 = .ok (.iload_n 1, 1) := by decide +kernel
theorem d_AP_draft_5 : decode b_AP_draft 5 = .ok (.bipush 15, 2) := by decide +kernel
theorem d_AP_draft_7 : decode b_AP_draft 7 = .ok (.if_icmp .le 13, 3) := by decide +kernel
theorem d_AP_draft_10 : decode b_AP_draft 10 = .ok (.new 69, 3) := by decide +kernel
theorem d_AP_draft_13 : decode b_AP_draft 13 = .ok (.dup, 1) := by decide +kernel
theorem d_AP_draft_14 : decode b_AP_draft 14 = .ok (.ldc 100, 2) := by decide +kernel
theorem d_AP_draft_16 : decode b_AP_draft 16 = .ok (.invokespecial 73, 3) := by decide +kernel
theorem d_AP_draft_19 : decode b_AP_draft 19 = .ok (.athrow, 1) := by decide +kernel
theorem d_AP_draft_20 : decode b_AP_draft 20 = .ok (.aload_n 0, 1) := by decide +kernel
theorem d_AP_draft_21 : decode b_AP_draft 21 = .ok (.getfield 41, 3) := by decide +kernel
theorem d_AP_draft_24 : decode b_AP_draft 24 = .ok (.invokevirtual 102, 3) := by decide +kernel
theorem d_AP_draft_27 : decode b_AP_draft 27 = .ok (.ifCond .eq 13, 3) := by decide +kernel
theorem d_AP_draft_30 : decode b_AP_draft 30 = .ok (.new 85, 3) := by decide +kernel
theorem d_AP_draft_33 : decode b_AP_draft 33 = .ok (.dup, 1) := by decide +kernel
theorem d_AP_draft_34 : decode b_AP_draft 34 = .ok (.ldc 103, 2) := by decide +kernel
theorem d_AP_draft_36 : decode b_AP_draft 36 = .ok (.invokespecial 89, 3) := by decide +kernel
theorem d_AP_draft_39 : decode b_AP_draft 39 = .ok (.athrow, 1) := by decide +kernel
theorem d_AP_draft_40 : decode b_AP_draft 40 = .ok (.aload_n 0, 1) := by decide +kernel
theorem d_AP_draft_41 : decode b_AP_draft 41 = .ok (.getfield 41, 3) := by decide +kernel
theorem d_AP_draft_44 : decode b_AP_draft 44 = .ok (.iload_n 1, 1) := by decide +kernel
theorem d_AP_draft_45 : decode b_AP_draft 45 = .ok (.iload_n 2, 1) := by decide +kernel
theorem d_AP_draft_46 : decode b_AP_draft 46 = .ok (.invokevirtual 105, 3) := by decide +kernel
theorem d_AP_draft_49 : decode b_AP_draft 49 = .ok (.ireturn, 1) := by decide +kernel
def j_AP_draft_10  (M : fm_M) : Option ((Int32 ⊕ String) × fm_M) :=
  some (.inr "java/lang/IllegalArgumentException", M)
def f_AP_draft (x0 : Nat) (x1 : Int32) (x2 : Int32) (M : fm_M) : Option ((Int32 ⊕ String) × fm_M) :=
  if x1 < 0 then
    j_AP_draft_10 M
  else
    if x1 ≤ 15 then
      (gr x0 9 5).bind fun q103 =>
      (ck q103 1).bind fun _ =>
      bd (f_Code_isFull q103 M) fun x108 M106 =>
      if x108 = 0 then
        (gr x0 9 5).bind fun q110 =>
        (ck q110 1).bind fun _ =>
        bd (f_Code_append q110 x1 x2 M106) fun x115 M113 =>
        some (.inl x115, M113)
      else
        some (.inr "java/lang/IllegalStateException", M106)
    else
      j_AP_draft_10 M
set_option maxHeartbeats 4000000 in
set_option maxRecDepth 100000 in
theorem w_AP_draft_10 {p : Program} {l : Launch} {e : Env} {s : State} {m : MethodId} {args : Array Value} {below : List Frame} {meth : Method} {c : Code} {G : fm_G} (C0 : fm_C p s m args meth c G (.code y_AP_draft b_AP_draft 3 (some .int)) "AllocationProfiler" b_AP_draft 3 (some .int)) (C1 : fx_C l s c G) {v : Int32 ⊕ String} {M' : fm_M}  {M : fm_M} {H : Heap} {locs : List Loc} (hP : kP G M H) (hS : kS G s H locs) {ls : Array Slot} (hl : lv_has ls 3 []) (h : j_AP_draft_10  M = some (v, M')) : W p l e (fx_rm 6 90 (xoI v)) s m args below meth c H locs 0 0 (vx_MQ below (fx_Q G (xoI v) M') (fx_X G (xoI v) M') args s (fx_c (xoI v)) (fx_s (xoI v)) (fm_A G.2.2)) (F0 m 10 ls []) := by
  have hx := C0.1
  have hb := C0.2.1
  have hown := C0.2.2.2.2.1
  have hts := C0.2.2.2.2.2.1
  unfold j_AP_draft_10 at h
  cases h
  exact x_throw C0 C1 T_IllegalArgumentException (text := "no such operation") (by decide) hP hS hl.1 d_AP_draft_10 d_AP_draft_13 d_AP_draft_14 d_AP_draft_16 d_AP_draft_19 (Nat.le_of_ble_eq_true rfl) (Nat.le_of_ble_eq_true rfl) (Nat.le_refl 1) (Nat.le_refl 6)
set_option maxHeartbeats 4000000 in
set_option maxRecDepth 100000 in
theorem c_AP_draft (l : Launch) (hst : l.stackTraces = false) (G : fm_G) (x0 : Nat) (x1 : Int32) (x2 : Int32) {v : Int32 ⊕ String} {M M' : fm_M} (h : f_AP_draft x0 x1 x2 M = some (v, M')) : kxMet l y_AP_draft b_AP_draft 3 (some .int) 6 90 G M [.ref (G.2.2 + x0), .int x1, .int x2] (xoI v) M' := by
  refine x_met hst (by decide) rfl (Nat.le_of_ble_eq_true rfl) (fun p e s m args below meth c C0 C1 hP ls hl => ?_)
  have hx := C0.1
  have hb := C0.2.1
  have hown := C0.2.2.2.2.1
  have hts := C0.2.2.2.2.2.1
  have hl : lv_has ls 3 [(0, .ref (G.2.2 + x0)), (1, .int x1), (2, .int x2)] := hl
  have hS : va_S (fm_A G.2.2) s.heap s.heap [] := va_S.rf
  unfold f_AP_draft at h
  refine lv_iload_n hx hb d_AP_draft_0 rfl (lv_at hl 1 rfl) ?_
  refine lv_if_lt (tgt := 10) hx hb d_AP_draft_1 (by decide) (fun c101 => ?_) (fun c101 => ?_)
  · rw [if_pos c101] at h
    exact w_AP_draft_10 C0 C1 hP hS (lv_sub hl [] rfl) h
  · rw [if_neg c101] at h
    refine lv_iload_n hx hb d_AP_draft_4 rfl (lv_at hl 1 rfl) ?_
    refine lv_bipush (v := 15) hx hb d_AP_draft_5 bp_15 ?_
    refine lv_icmp_le (tgt := 20) hx hb d_AP_draft_7 (by decide) (fun c102 => ?_) (fun c102 => ?_)
    · rw [if_pos c102] at h
      refine lv_aload_n hx hb d_AP_draft_20 rfl (lv_at hl 0 rfl) ?_
      obtain ⟨q103, e104, h⟩ := ob h
      refine k_gr C0 F_AP_41 hP e104 d_AP_draft_21 ?_
      obtain ⟨_, e105, h⟩ := ob h
      obtain ⟨x108, M106, e107, h⟩ := ob2 h
      refine k_cV C0 L_AP_102 (As := []) (c_Code_isFull l G q103 e107) ⟨rfl, rfl⟩ ⟨Nat.le_of_ble_eq_true rfl, Nat.le_of_ble_eq_true rfl⟩ hP hS (ck_of e105) ly_Code rfl hl.1 rfl (Nat.le_of_ble_eq_true rfl) d_AP_draft_24 ⟨Nat.zero_le _, Nat.zero_le _⟩ (fun H locs hP hS => ?_)
      refine lv_if_eq (tgt := 40) hx hb d_AP_draft_27 (by decide) (fun c109 => ?_) (fun c109 => ?_)
      · rw [if_pos c109] at h
        refine lv_aload_n hx hb d_AP_draft_40 rfl (lv_at hl 0 rfl) ?_
        obtain ⟨q110, e111, h⟩ := ob h
        refine k_gr C0 F_AP_41 hP e111 d_AP_draft_41 ?_
        refine lv_iload_n hx hb d_AP_draft_44 rfl (lv_at hl 1 rfl) ?_
        refine lv_iload_n hx hb d_AP_draft_45 rfl (lv_at hl 2 rfl) ?_
        obtain ⟨_, e112, h⟩ := ob h
        obtain ⟨x115, M113, e114, h⟩ := ob2 h
        refine k_cV C0 L_AP_105 (As := [.int x1, .int x2]) (c_Code_append l G q110 x1 x2 e114) ⟨rfl, rfl⟩ ⟨Nat.le_of_ble_eq_true rfl, Nat.le_of_ble_eq_true rfl⟩ hP hS (ck_of e112) ly_Code rfl hl.1 rfl (Nat.le_of_ble_eq_true rfl) d_AP_draft_46 ⟨Nat.zero_le _, Nat.zero_le _⟩ (fun H locs hP hS => ?_)
        cases h
        exact x_ret (r_iret C0 hP hS d_AP_draft_49)
      · rw [if_neg c109] at h
        cases h
        exact x_throw C0 C1 T_IllegalStateException (text := "the draft is full") (by decide) hP hS hl.1 d_AP_draft_30 d_AP_draft_33 d_AP_draft_34 d_AP_draft_36 d_AP_draft_39 (Nat.le_of_ble_eq_true rfl) (Nat.le_of_ble_eq_true rfl) (Nat.le_refl 1) (Nat.le_refl 6)
    · rw [if_neg c102] at h
      exact w_AP_draft_10 C0 C1 hP hS (lv_sub hl [] rfl) h
/-! AllocationProfiler.range -/
theorem d_AP_range_0 : decode b_AP_range 0 = .ok (.aload_n 0, 1) := by decide +kernel
theorem d_AP_range_1 : decode b_AP_range 1 = .ok (.getfield 41, 3) := by decide +kernel
theorem d_AP_range_4 : decode b_AP_range 4 = .ok (.invokevirtual 109, 3) := by decide +kernel
theorem d_AP_range_7 : decode b_AP_range 7 = .ok (.ifCond .eq 13, 3) := by decide +kernel
theorem d_AP_range_10 : decode b_AP_range 10 = .ok (.new 85, 3) := by decide +kernel
theorem d_AP_range_13 : decode b_AP_range 13 = .ok (.dup, 1) := by decide +kernel
theorem d_AP_range_14 : decode b_AP_range 14 = .ok (.ldc 112, 2) := by decide +kernel
theorem d_AP_range_16 : decode b_AP_range 16 = .ok (.invokespecial 89, 3) := by decide +kernel
theorem d_AP_range_19 : decode b_AP_range 19 = .ok (.athrow, 1) := by decide +kernel
theorem d_AP_range_20 : decode b_AP_range 20 = .ok (.aload_n 0, 1) := by decide +kernel
theorem d_AP_range_21 : decode b_AP_range 21 = .ok (.getfield 41, 3) := by decide +kernel
theorem d_AP_range_24 : decode b_AP_range 24 = .ok (.iload_n 1, 1) := by decide +kernel
theorem d_AP_range_25 : decode b_AP_range 25 = .ok (.iload_n 2, 1) := by decide +kernel
theorem d_AP_range_26 : decode b_AP_range 26 = .ok (.iload_n 3, 1) := by decide +kernel
theorem d_AP_range_27 : decode b_AP_range 27 = .ok (.invokevirtual 114, 3) := by decide +kernel
theorem d_AP_range_30 : decode b_AP_range 30 = .ok (.ireturn, 1) := by decide +kernel
def f_AP_range (x0 : Nat) (x1 : Int32) (x2 : Int32) (x3 : Int32) (M : fm_M) : Option ((Int32 ⊕ String) × fm_M) :=
  (gr x0 9 5).bind fun q101 =>
  (ck q101 1).bind fun _ =>
  bd (f_Code_hasAllRanges q101 M) fun x106 M104 =>
  if x106 = 0 then
    (gr x0 9 5).bind fun q108 =>
    (ck q108 1).bind fun _ =>
    bd (f_Code_appendRange q108 x1 x2 x3 M104) fun x113 M111 =>
    some (.inl x113, M111)
  else
    some (.inr "java/lang/IllegalStateException", M104)
set_option maxHeartbeats 4000000 in
set_option maxRecDepth 100000 in
theorem c_AP_range (l : Launch) (hst : l.stackTraces = false) (G : fm_G) (x0 : Nat) (x1 : Int32) (x2 : Int32) (x3 : Int32) {v : Int32 ⊕ String} {M M' : fm_M} (h : f_AP_range x0 x1 x2 x3 M = some (v, M')) : kxMet l y_AP_range b_AP_range 4 (some .int) 6 90 G M [.ref (G.2.2 + x0), .int x1, .int x2, .int x3] (xoI v) M' := by
  refine x_met hst (by decide) rfl (Nat.le_of_ble_eq_true rfl) (fun p e s m args below meth c C0 C1 hP ls hl => ?_)
  have hx := C0.1
  have hb := C0.2.1
  have hown := C0.2.2.2.2.1
  have hts := C0.2.2.2.2.2.1
  have hl : lv_has ls 4 [(0, .ref (G.2.2 + x0)), (1, .int x1), (2, .int x2), (3, .int x3)] := hl
  have hS : va_S (fm_A G.2.2) s.heap s.heap [] := va_S.rf
  unfold f_AP_range at h
  refine lv_aload_n hx hb d_AP_range_0 rfl (lv_at hl 0 rfl) ?_
  obtain ⟨q101, e102, h⟩ := ob h
  refine k_gr C0 F_AP_41 hP e102 d_AP_range_1 ?_
  obtain ⟨_, e103, h⟩ := ob h
  obtain ⟨x106, M104, e105, h⟩ := ob2 h
  refine k_cV C0 L_AP_109 (As := []) (c_Code_hasAllRanges l G q101 e105) ⟨rfl, rfl⟩ ⟨Nat.le_of_ble_eq_true rfl, Nat.le_of_ble_eq_true rfl⟩ hP hS (ck_of e103) ly_Code rfl hl.1 rfl (Nat.le_of_ble_eq_true rfl) d_AP_range_4 ⟨Nat.zero_le _, Nat.zero_le _⟩ (fun H locs hP hS => ?_)
  refine lv_if_eq (tgt := 20) hx hb d_AP_range_7 (by decide) (fun c107 => ?_) (fun c107 => ?_)
  · rw [if_pos c107] at h
    refine lv_aload_n hx hb d_AP_range_20 rfl (lv_at hl 0 rfl) ?_
    obtain ⟨q108, e109, h⟩ := ob h
    refine k_gr C0 F_AP_41 hP e109 d_AP_range_21 ?_
    refine lv_iload_n hx hb d_AP_range_24 rfl (lv_at hl 1 rfl) ?_
    refine lv_iload_n hx hb d_AP_range_25 rfl (lv_at hl 2 rfl) ?_
    refine lv_iload_n hx hb d_AP_range_26 rfl (lv_at hl 3 rfl) ?_
    obtain ⟨_, e110, h⟩ := ob h
    obtain ⟨x113, M111, e112, h⟩ := ob2 h
    refine k_cV C0 L_AP_114 (As := [.int x1, .int x2, .int x3]) (c_Code_appendRange l G q108 x1 x2 x3 e112) ⟨rfl, rfl⟩ ⟨Nat.le_of_ble_eq_true rfl, Nat.le_of_ble_eq_true rfl⟩ hP hS (ck_of e110) ly_Code rfl hl.1 rfl (Nat.le_of_ble_eq_true rfl) d_AP_range_27 ⟨Nat.zero_le _, Nat.zero_le _⟩ (fun H locs hP hS => ?_)
    cases h
    exact x_ret (r_iret C0 hP hS d_AP_range_30)
  · rw [if_neg c107] at h
    cases h
    exact x_throw C0 C1 T_IllegalStateException (text := "the draft has its ranges") (by decide) hP hS hl.1 d_AP_range_10 d_AP_range_13 d_AP_range_14 d_AP_range_16 d_AP_range_19 (Nat.le_of_ble_eq_true rfl) (Nat.le_of_ble_eq_true rfl) (Nat.le_refl 1) (Nat.le_refl 6)
/-! AllocationProfiler.define -/
theorem d_AP_define_0 : decode b_AP_define 0 = .ok (.aload_n 0, 1) := by decide +kernel
theorem d_AP_define_1 : decode b_AP_define 1 = .ok (.iconst (-1), 1) := by decide +kernel
theorem d_AP_define_2 : decode b_AP_define 2 = .ok (.putfield 56, 3) := by decide +kernel
theorem d_AP_define_5 : decode b_AP_define 5 = .ok (.aload_n 0, 1) := by decide +kernel
theorem d_AP_define_6 : decode b_AP_define 6 = .ok (.getfield 59, 3) := by decide +kernel
theorem d_AP_define_9 : decode b_AP_define 9 = .ok (.ifCond .ne 12, 3) := by decide +kernel
theorem d_AP_define_12 : decode b_AP_define 12 = .ok (.aload_n 0, 1) := by decide +kernel
theorem d_AP_define_13 : decode b_AP_define 13 = .ok (.getfield 52, 3) := by decide +kernel
theorem d_AP_define_16 : decode b_AP_define 16 = .ok (.bipush 6, 2) := by decide +kernel
theorem d_AP_define_18 : decode b_AP_define 18 = .ok (.if_icmp .lt 20, 3) := by decide +kernel
theorem d_AP_define_21 : decode b_AP_define 21 = .ok (.aload_n 0, 1) := by decide +kernel
theorem d_AP_define_22 : decode b_AP_define 22 = .ok (.getfield 41, 3) := by decide +kernel
theorem d_AP_define_25 : decode b_AP_define 25 = .ok (.invokevirtual 118, 3) := by decide +kernel
theorem d_AP_define_28 : decode b_AP_define 28 = .ok (.new 85, 3) := by decide +kernel
theorem d_AP_define_31 : decode b_AP_define 31 = .ok (.dup, 1) := by decide +kernel
theorem d_AP_define_32 : decode b_AP_define 32 = .ok (.ldc 121, 2) := by decide +kernel
theorem d_AP_define_34 : decode b_AP_define 34 = .ok (.invokespecial 89, 3) := by decide +kernel
theorem d_AP_define_37 : decode b_AP_define 37 = .ok (.athrow, 1) := by decide +kernel
theorem d_AP_define_38 : decode b_AP_define 38 = .ok (.aload_n 0, 1) := by decide +kernel
theorem d_AP_define_39 : decode b_AP_define 39 = .ok (.aload_n 0, 1) := by decide +kernel
theorem d_AP_define_40 : decode b_AP_define 40 = .ok (.getfield 48, 3) := by decide +kernel
theorem d_AP_define_43 : decode b_AP_define 43 = .ok (.aload_n 0, 1) := by decide +kernel
theorem d_AP_define_44 : decode b_AP_define 44 = .ok (.getfield 41, 3) := by decide +kernel
theorem d_AP_define_47 : decode b_AP_define 47 = .ok (.aload_n 0, 1) := by decide +kernel
theorem d_AP_define_48 : decode b_AP_define 48 = .ok (.getfield 20, 3) := by decide +kernel
theorem d_AP_define_51 : decode b_AP_define 51 = .ok (.aload_n 0, 1) := by decide +kernel
theorem d_AP_define_52 : decode b_AP_define 52 = .ok (.getfield 52, 3) := by decide +kernel
theorem d_AP_define_55 : decode b_AP_define 55 = .ok (.invokevirtual 123, 3) := by decide +kernel
theorem d_AP_define_58 : decode b_AP_define 58 = .ok (.putfield 56, 3) := by decide +kernel
theorem d_AP_define_61 : decode b_AP_define 61 = .ok (.aload_n 0, 1) := by decide +kernel
theorem d_AP_define_62 : decode b_AP_define 62 = .ok (.getfield 56, 3) := by decide +kernel
theorem d_AP_define_65 : decode b_AP_define 65 = .ok (.iconst (-1), 1) := by decide +kernel
theorem d_AP_define_66 : decode b_AP_define 66 = .ok (.if_icmp .eq 20, 3) := by decide +kernel
theorem d_AP_define_69 : decode b_AP_define 69 = .ok (.aload_n 0, 1) := by decide +kernel
theorem d_AP_define_70 : decode b_AP_define 70 = .ok (.getfield 41, 3) := by decide +kernel
theorem d_AP_define_73 : decode b_AP_define 73 = .ok (.invokevirtual 118, 3) := by decide +kernel
theorem d_AP_define_76 : decode b_AP_define 76 = .ok (.new 69, 3) := by decide +kernel
theorem d_AP_define_79 : decode b_AP_define 79 = .ok (.dup, 1) := by decide +kernel
theorem d_AP_define_80 : decode b_AP_define 80 = .ok (.ldc 127, 2) := by decide +kernel
theorem d_AP_define_82 : decode b_AP_define 82 = .ok (.invokespecial 73, 3) := by decide +kernel
theorem d_AP_define_85 : decode b_AP_define 85 = .ok (.athrow, 1) := by decide +kernel
theorem d_AP_define_86 : decode b_AP_define 86 = .ok (.aload_n 0, 1) := by decide +kernel
theorem d_AP_define_87 : decode b_AP_define 87 = .ok (.getfield 25, 3) := by decide +kernel
theorem d_AP_define_90 : decode b_AP_define 90 = .ok (.aload_n 0, 1) := by decide +kernel
theorem d_AP_define_91 : decode b_AP_define 91 = .ok (.getfield 52, 3) := by decide +kernel
theorem d_AP_define_94 : decode b_AP_define 94 = .ok (.aaload, 1) := by decide +kernel
theorem d_AP_define_95 : decode b_AP_define 95 = .ok (.aload_n 0, 1) := by decide +kernel
theorem d_AP_define_96 : decode b_AP_define 96 = .ok (.getfield 41, 3) := by decide +kernel
theorem d_AP_define_99 : decode b_AP_define 99 = .ok (.invokevirtual 129, 3) := by decide +kernel
theorem d_AP_define_102 : decode b_AP_define 102 = .ok (.aload_n 0, 1) := by decide +kernel
theorem d_AP_define_103 : decode b_AP_define 103 = .ok (.getfield 41, 3) := by decide +kernel
theorem d_AP_define_106 : decode b_AP_define 106 = .ok (.invokevirtual 118, 3) := by decide +kernel
theorem d_AP_define_109 : decode b_AP_define 109 = .ok (.aload_n 0, 1) := by decide +kernel
theorem d_AP_define_110 : decode b_AP_define 110 = .ok (.dup, 1) := by decide +kernel
theorem d_AP_define_111 : decode b_AP_define 111 = .ok (.getfield 52, 3) := by decide +kernel
theorem d_AP_define_114 : decode b_AP_define 114 = .ok (.iconst 1, 1) := by decide +kernel
theorem d_AP_define_115 : decode b_AP_define 115 = .ok (.iadd, 1) := by decide +kernel
theorem d_AP_define_116 : decode b_AP_define 116 = .ok (.putfield 52, 3) := by decide +kernel
theorem d_AP_define_119 : decode b_AP_define 119 = .ok (.aload_n 0, 1) := by decide +kernel
theorem d_AP_define_120 : decode b_AP_define 120 = .ok (.getfield 52, 3) := by decide +kernel
theorem d_AP_define_123 : decode b_AP_define 123 = .ok (.iconst 1, 1) := by decide +kernel
theorem d_AP_define_124 : decode b_AP_define 124 = .ok (.isub, 1) := by decide +kernel
theorem d_AP_define_125 : decode b_AP_define 125 = .ok (.ireturn, 1) := by decide +kernel
def j_AP_define_21 (x0 : Nat) (M : fm_M) : Option ((Int32 ⊕ String) × fm_M) :=
  (gr x0 9 5).bind fun q101 =>
  (ck q101 1).bind fun _ =>
  (f_Code_clear q101 M).bind fun M104 =>
  some (.inr "java/lang/IllegalStateException", M104)
def f_AP_define (x0 : Nat) (M : fm_M) : Option ((Int32 ⊕ String) × fm_M) :=
  (pi x0 9 8 (-1) M).bind fun M106 =>
  (gi x0 9 9 M106).bind fun x108 =>
  if x108 = 0 then
    (gi x0 9 7 M106).bind fun x111 =>
    if x111 < 6 then
      (gr x0 9 6).bind fun q114 =>
      (gr x0 9 5).bind fun q116 =>
      (gr x0 9 1).bind fun q118 =>
      (gi x0 9 7 M106).bind fun x120 =>
      (ck q114 0).bind fun _ =>
      bd (f_Checker_faultOf q114 q116 q118 x120 M106) fun x125 M123 =>
      (pi x0 9 8 x125 M123).bind fun M126 =>
      (gi x0 9 8 M126).bind fun x128 =>
      if x128 = (-1) then
        (gr x0 9 2).bind fun q131 =>
        (gi x0 9 7 M126).bind fun x133 =>
        (ar q131 x133).bind fun q135 =>
        (gr x0 9 5).bind fun q137 =>
        (ck q135 6).bind fun _ =>
        (f_Method_become q135 q137 M126).bind fun M140 =>
        (gr x0 9 5).bind fun q142 =>
        (ck q142 1).bind fun _ =>
        (f_Code_clear q142 M140).bind fun M145 =>
        (gi x0 9 7 M145).bind fun x147 =>
        (pi x0 9 7 (x147 + 1) M145).bind fun M149 =>
        (gi x0 9 7 M149).bind fun x151 =>
        some (.inl (x151 - 1), M149)
      else
        (gr x0 9 5).bind fun q153 =>
        (ck q153 1).bind fun _ =>
        (f_Code_clear q153 M126).bind fun M156 =>
        some (.inr "java/lang/IllegalArgumentException", M156)
    else
      j_AP_define_21 x0 M106
  else
    j_AP_define_21 x0 M106
set_option maxHeartbeats 4000000 in
set_option maxRecDepth 100000 in
theorem w_AP_define_21 {p : Program} {l : Launch} {e : Env} {s : State} {m : MethodId} {args : Array Value} {below : List Frame} {meth : Method} {c : Code} {G : fm_G} (C0 : fm_C p s m args meth c G (.code y_AP_define b_AP_define 1 (some .int)) "AllocationProfiler" b_AP_define 1 (some .int)) (C1 : fx_C l s c G) {v : Int32 ⊕ String} {M' : fm_M} (x0 : Nat) {M : fm_M} {H : Heap} {locs : List Loc} (hP : kP G M H) (hS : kS G s H locs) {ls : Array Slot} (hl : lv_has ls 1 [(0, .ref (G.2.2 + x0))]) (h : j_AP_define_21 x0 M = some (v, M')) : W p l e (fx_rm 6 114 (xoI v)) s m args below meth c H locs 0 0 (vx_MQ below (fx_Q G (xoI v) M') (fx_X G (xoI v) M') args s (fx_c (xoI v)) (fx_s (xoI v)) (fm_A G.2.2)) (F0 m 21 ls []) := by
  have hx := C0.1
  have hb := C0.2.1
  have hown := C0.2.2.2.2.1
  have hts := C0.2.2.2.2.2.1
  unfold j_AP_define_21 at h
  refine lv_aload_n hx hb d_AP_define_21 rfl (lv_at hl 0 rfl) ?_
  obtain ⟨q101, e102, h⟩ := ob h
  refine k_gr C0 F_AP_41 hP e102 d_AP_define_22 ?_
  obtain ⟨_, e103, h⟩ := ob h
  obtain ⟨M104, e105, h⟩ := ob h
  refine k_cVv C0 L_AP_118 (As := []) (c_Code_clear l G q101 e105) ⟨rfl, rfl⟩ ⟨Nat.le_of_ble_eq_true rfl, Nat.le_of_ble_eq_true rfl⟩ hP hS (ck_of e103) ly_Code rfl hl.1 rfl (Nat.le_of_ble_eq_true rfl) d_AP_define_25 ⟨Nat.zero_le _, Nat.zero_le _⟩ (fun H locs hP hS => ?_)
  cases h
  exact x_throw C0 C1 T_IllegalStateException (text := "no more methods") (by decide) hP hS hl.1 d_AP_define_28 d_AP_define_31 d_AP_define_32 d_AP_define_34 d_AP_define_37 (Nat.le_of_ble_eq_true rfl) (Nat.le_of_ble_eq_true rfl) (Nat.le_refl 1) (Nat.le_refl 6)
set_option maxHeartbeats 4000000 in
set_option maxRecDepth 100000 in
theorem c_AP_define (l : Launch) (hst : l.stackTraces = false) (G : fm_G) (x0 : Nat) {v : Int32 ⊕ String} {M M' : fm_M} (h : f_AP_define x0 M = some (v, M')) : kxMet l y_AP_define b_AP_define 1 (some .int) 6 114 G M [.ref (G.2.2 + x0)] (xoI v) M' := by
  refine x_met hst (by decide) rfl (Nat.le_of_ble_eq_true rfl) (fun p e s m args below meth c C0 C1 hP ls hl => ?_)
  have hx := C0.1
  have hb := C0.2.1
  have hown := C0.2.2.2.2.1
  have hts := C0.2.2.2.2.2.1
  have hl : lv_has ls 1 [(0, .ref (G.2.2 + x0))] := hl
  have hS : va_S (fm_A G.2.2) s.heap s.heap [] := va_S.rf
  unfold f_AP_define at h
  refine lv_aload_n hx hb d_AP_define_0 rfl (lv_at hl 0 rfl) ?_
  refine lv_iconst (v := (-1)) hx hb d_AP_define_1 ic_m1 ?_
  obtain ⟨M106, e107, h⟩ := ob h
  refine k_pi C0 F_AP_56p ik_9_8 hP hS e107 d_AP_define_2 (fun H locs hP hS => ?_)
  refine lv_aload_n hx hb d_AP_define_5 rfl (lv_at hl 0 rfl) ?_
  obtain ⟨x108, e109, h⟩ := ob h
  refine k_gi C0 F_AP_59 ik_9_9 hP e109 d_AP_define_6 ?_
  refine lv_if_ne (tgt := 21) hx hb d_AP_define_9 (by decide) (fun c110 => ?_) (fun c110 => ?_)
  · rw [if_neg c110] at h
    exact w_AP_define_21 C0 C1 x0 hP hS (lv_sub hl [0] rfl) h
  · rw [if_pos c110] at h
    refine lv_aload_n hx hb d_AP_define_12 rfl (lv_at hl 0 rfl) ?_
    obtain ⟨x111, e112, h⟩ := ob h
    refine k_gi C0 F_AP_52 ik_9_7 hP e112 d_AP_define_13 ?_
    refine lv_bipush (v := 6) hx hb d_AP_define_16 bp_6 ?_
    refine lv_icmp_lt (tgt := 38) hx hb d_AP_define_18 (by decide) (fun c113 => ?_) (fun c113 => ?_)
    · rw [if_pos c113] at h
      refine lv_aload_n hx hb d_AP_define_38 rfl (lv_at hl 0 rfl) ?_
      refine lv_aload_n hx hb d_AP_define_39 rfl (lv_at hl 0 rfl) ?_
      obtain ⟨q114, e115, h⟩ := ob h
      refine k_gr C0 F_AP_48 hP e115 d_AP_define_40 ?_
      refine lv_aload_n hx hb d_AP_define_43 rfl (lv_at hl 0 rfl) ?_
      obtain ⟨q116, e117, h⟩ := ob h
      refine k_gr C0 F_AP_41 hP e117 d_AP_define_44 ?_
      refine lv_aload_n hx hb d_AP_define_47 rfl (lv_at hl 0 rfl) ?_
      obtain ⟨q118, e119, h⟩ := ob h
      refine k_gr C0 F_AP_20 hP e119 d_AP_define_48 ?_
      refine lv_aload_n hx hb d_AP_define_51 rfl (lv_at hl 0 rfl) ?_
      obtain ⟨x120, e121, h⟩ := ob h
      refine k_gi C0 F_AP_52 ik_9_7 hP e121 d_AP_define_52 ?_
      obtain ⟨_, e122, h⟩ := ob h
      obtain ⟨x125, M123, e124, h⟩ := ob2 h
      refine k_cV C0 L_AP_123 (As := [.ref (G.2.2 + q116), .ref (G.2.2 + q118), .int x120]) (c_Checker_faultOf l G q114 q116 q118 x120 e124) ⟨rfl, rfl⟩ ⟨Nat.le_of_ble_eq_true rfl, Nat.le_of_ble_eq_true rfl⟩ hP hS (ck_of e122) ly_Checker rfl hl.1 rfl (Nat.le_of_ble_eq_true rfl) d_AP_define_55 ⟨Nat.zero_le _, Nat.zero_le _⟩ (fun H locs hP hS => ?_)
      obtain ⟨M126, e127, h⟩ := ob h
      refine k_pi C0 F_AP_56p ik_9_8 hP hS e127 d_AP_define_58 (fun H locs hP hS => ?_)
      refine lv_aload_n hx hb d_AP_define_61 rfl (lv_at hl 0 rfl) ?_
      obtain ⟨x128, e129, h⟩ := ob h
      refine k_gi C0 F_AP_56 ik_9_8 hP e129 d_AP_define_62 ?_
      refine lv_iconst (v := (-1)) hx hb d_AP_define_65 ic_m1 ?_
      refine lv_icmp_eq (tgt := 86) hx hb d_AP_define_66 (by decide) (fun c130 => ?_) (fun c130 => ?_)
      · rw [if_pos c130] at h
        refine lv_aload_n hx hb d_AP_define_86 rfl (lv_at hl 0 rfl) ?_
        obtain ⟨q131, e132, h⟩ := ob h
        refine k_gr C0 F_AP_25 hP e132 d_AP_define_87 ?_
        refine lv_aload_n hx hb d_AP_define_90 rfl (lv_at hl 0 rfl) ?_
        obtain ⟨x133, e134, h⟩ := ob h
        refine k_gi C0 F_AP_52 ik_9_7 hP e134 d_AP_define_91 ?_
        obtain ⟨q135, e136, h⟩ := ob h
        refine k_ar C0 hP e136 d_AP_define_94 ?_
        refine lv_aload_n hx hb d_AP_define_95 rfl (lv_at hl 0 rfl) ?_
        obtain ⟨q137, e138, h⟩ := ob h
        refine k_gr C0 F_AP_41 hP e138 d_AP_define_96 ?_
        obtain ⟨_, e139, h⟩ := ob h
        obtain ⟨M140, e141, h⟩ := ob h
        refine k_cVv C0 L_AP_129 (As := [.ref (G.2.2 + q137)]) (c_Method_become l G q135 q137 e141) ⟨rfl, rfl⟩ ⟨Nat.le_of_ble_eq_true rfl, Nat.le_of_ble_eq_true rfl⟩ hP hS (ck_of e139) ly_Method rfl hl.1 rfl (Nat.le_of_ble_eq_true rfl) d_AP_define_99 ⟨Nat.zero_le _, Nat.zero_le _⟩ (fun H locs hP hS => ?_)
        refine lv_aload_n hx hb d_AP_define_102 rfl (lv_at hl 0 rfl) ?_
        obtain ⟨q142, e143, h⟩ := ob h
        refine k_gr C0 F_AP_41 hP e143 d_AP_define_103 ?_
        obtain ⟨_, e144, h⟩ := ob h
        obtain ⟨M145, e146, h⟩ := ob h
        refine k_cVv C0 L_AP_118 (As := []) (c_Code_clear l G q142 e146) ⟨rfl, rfl⟩ ⟨Nat.le_of_ble_eq_true rfl, Nat.le_of_ble_eq_true rfl⟩ hP hS (ck_of e144) ly_Code rfl hl.1 rfl (Nat.le_of_ble_eq_true rfl) d_AP_define_106 ⟨Nat.zero_le _, Nat.zero_le _⟩ (fun H locs hP hS => ?_)
        refine lv_aload_n hx hb d_AP_define_109 rfl (lv_at hl 0 rfl) ?_
        refine lv_dup hx hb d_AP_define_110 rfl ?_
        obtain ⟨x147, e148, h⟩ := ob h
        refine k_gi C0 F_AP_52 ik_9_7 hP e148 d_AP_define_111 ?_
        refine lv_iconst (v := 1) hx hb d_AP_define_114 ic_1 ?_
        refine lv_iadd hx hb d_AP_define_115 ?_
        obtain ⟨M149, e150, h⟩ := ob h
        refine k_pi C0 F_AP_52p ik_9_7 hP hS e150 d_AP_define_116 (fun H locs hP hS => ?_)
        refine lv_aload_n hx hb d_AP_define_119 rfl (lv_at hl 0 rfl) ?_
        obtain ⟨x151, e152, h⟩ := ob h
        refine k_gi C0 F_AP_52 ik_9_7 hP e152 d_AP_define_120 ?_
        refine lv_iconst (v := 1) hx hb d_AP_define_123 ic_1 ?_
        refine lv_isub hx hb d_AP_define_124 ?_
        cases h
        exact x_ret (r_iret C0 hP hS d_AP_define_125)
      · rw [if_neg c130] at h
        refine lv_aload_n hx hb d_AP_define_69 rfl (lv_at hl 0 rfl) ?_
        obtain ⟨q153, e154, h⟩ := ob h
        refine k_gr C0 F_AP_41 hP e154 d_AP_define_70 ?_
        obtain ⟨_, e155, h⟩ := ob h
        obtain ⟨M156, e157, h⟩ := ob h
        refine k_cVv C0 L_AP_118 (As := []) (c_Code_clear l G q153 e157) ⟨rfl, rfl⟩ ⟨Nat.le_of_ble_eq_true rfl, Nat.le_of_ble_eq_true rfl⟩ hP hS (ck_of e155) ly_Code rfl hl.1 rfl (Nat.le_of_ble_eq_true rfl) d_AP_define_73 ⟨Nat.zero_le _, Nat.zero_le _⟩ (fun H locs hP hS => ?_)
        cases h
        exact x_throw C0 C1 T_IllegalArgumentException (text := "the draft is malformed") (by decide) hP hS hl.1 d_AP_define_76 d_AP_define_79 d_AP_define_80 d_AP_define_82 d_AP_define_85 (Nat.le_of_ble_eq_true rfl) (Nat.le_of_ble_eq_true rfl) (Nat.le_refl 1) (Nat.le_refl 6)
    · rw [if_neg c113] at h
      exact w_AP_define_21 C0 C1 x0 hP hS (lv_sub hl [0] rfl) h
/-! AllocationProfiler.needMethod -/
theorem d_AP_needMethod_0 : decode b_AP_needMethod 0 = .ok (.iload_n 1, 1) := by decide +kernel
theorem d_AP_needMethod_1 : decode b_AP_needMethod 1 = .ok (.ifCond .lt 11, 3) := by decide +kernel
theorem d_AP_needMethod_4 : decode b_AP_needMethod 4 = .ok (.iload_n 1, 1) := by decide +kernel
theorem d_AP_needMethod_5 : decode b_AP_needMethod 5 = .ok (.aload_n 0, 1) := by decide +kernel
theorem d_AP_needMethod_6 : decode b_AP_needMethod 6 = .ok (.getfield 52, 3) := by decide +kernel
theorem d_AP_needMethod_9 : decode b_AP_needMethod 9 = .ok (.if_icmp .lt 14, 3) := by decide +kernel
theorem d_AP_needMethod_12 : decode b_AP_needMethod 12 = .ok (.new 69, 3) := by decide +kernel
theorem d_AP_needMethod_15 : decode b_AP_needMethod 15 = .ok (.dup, 1) := by decide +kernel
theorem d_AP_needMethod_16 : decode b_AP_needMethod 16 = .ok (.ldc_w 273, 3) := by decide +kernel
theorem d_AP_needMethod_19 : decode b_AP_needMethod 19 = .ok (.invokespecial 73, 3) := by decide +kernel
theorem d_AP_needMethod_22 : decode b_AP_needMethod 22 = .ok (.athrow, 1) := by decide +kernel
theorem d_AP_needMethod_23 : decode b_AP_needMethod 23 = .ok (.return_, 1) := by decide +kernel
def j_AP_needMethod_12  (M : fm_M) : Option ((Unit ⊕ String) × fm_M) :=
  some (.inr "java/lang/IllegalArgumentException", M)
def f_AP_needMethod (x0 : Nat) (x1 : Int32) (M : fm_M) : Option ((Unit ⊕ String) × fm_M) :=
  if x1 < 0 then
    j_AP_needMethod_12 M
  else
    (gi x0 9 7 M).bind fun x102 =>
    if x1 < x102 then
      some (.inl (), M)
    else
      j_AP_needMethod_12 M
set_option maxHeartbeats 4000000 in
set_option maxRecDepth 100000 in
theorem w_AP_needMethod_12 {p : Program} {l : Launch} {e : Env} {s : State} {m : MethodId} {args : Array Value} {below : List Frame} {meth : Method} {c : Code} {G : fm_G} (C0 : fm_C p s m args meth c G (.code y_AP_needMethod b_AP_needMethod 2 none) "AllocationProfiler" b_AP_needMethod 2 none) (C1 : fx_C l s c G) {v : Unit ⊕ String} {M' : fm_M}  {M : fm_M} {H : Heap} {locs : List Loc} (hP : kP G M H) (hS : kS G s H locs) {ls : Array Slot} (hl : lv_has ls 2 []) (h : j_AP_needMethod_12  M = some (v, M')) : W p l e (fx_rm 6 90 (xoV v)) s m args below meth c H locs 0 0 (vx_MQ below (fx_Q G (xoV v) M') (fx_X G (xoV v) M') args s (fx_c (xoV v)) (fx_s (xoV v)) (fm_A G.2.2)) (F0 m 12 ls []) := by
  have hx := C0.1
  have hb := C0.2.1
  have hown := C0.2.2.2.2.1
  have hts := C0.2.2.2.2.2.1
  unfold j_AP_needMethod_12 at h
  cases h
  exact x_throwW C0 C1 T_IllegalArgumentException (text := "no such method") (by decide) hP hS hl.1 d_AP_needMethod_12 d_AP_needMethod_15 d_AP_needMethod_16 d_AP_needMethod_19 d_AP_needMethod_22 (Nat.le_of_ble_eq_true rfl) (Nat.le_of_ble_eq_true rfl) (Nat.le_refl 1) (Nat.le_refl 6)
set_option maxHeartbeats 4000000 in
set_option maxRecDepth 100000 in
theorem c_AP_needMethod (l : Launch) (hst : l.stackTraces = false) (G : fm_G) (x0 : Nat) (x1 : Int32) {v : Unit ⊕ String} {M M' : fm_M} (h : f_AP_needMethod x0 x1 M = some (v, M')) : kxMet l y_AP_needMethod b_AP_needMethod 2 none 6 90 G M [.ref (G.2.2 + x0), .int x1] (xoV v) M' := by
  refine x_met hst (by decide) rfl (Nat.le_of_ble_eq_true rfl) (fun p e s m args below meth c C0 C1 hP ls hl => ?_)
  have hx := C0.1
  have hb := C0.2.1
  have hown := C0.2.2.2.2.1
  have hts := C0.2.2.2.2.2.1
  have hl : lv_has ls 2 [(0, .ref (G.2.2 + x0)), (1, .int x1)] := hl
  have hS : va_S (fm_A G.2.2) s.heap s.heap [] := va_S.rf
  unfold f_AP_needMethod at h
  refine lv_iload_n hx hb d_AP_needMethod_0 rfl (lv_at hl 1 rfl) ?_
  refine lv_if_lt (tgt := 12) hx hb d_AP_needMethod_1 (by decide) (fun c101 => ?_) (fun c101 => ?_)
  · rw [if_pos c101] at h
    exact w_AP_needMethod_12 C0 C1 hP hS (lv_sub hl [] rfl) h
  · rw [if_neg c101] at h
    refine lv_iload_n hx hb d_AP_needMethod_4 rfl (lv_at hl 1 rfl) ?_
    refine lv_aload_n hx hb d_AP_needMethod_5 rfl (lv_at hl 0 rfl) ?_
    obtain ⟨x102, e103, h⟩ := ob h
    refine k_gi C0 F_AP_52 ik_9_7 hP e103 d_AP_needMethod_6 ?_
    refine lv_icmp_lt (tgt := 23) hx hb d_AP_needMethod_9 (by decide) (fun c104 => ?_) (fun c104 => ?_)
    · rw [if_pos c104] at h
      cases h
      exact x_ret (r_vret C0 hP hS d_AP_needMethod_23)
    · rw [if_neg c104] at h
      exact w_AP_needMethod_12 C0 C1 hP hS (lv_sub hl [] rfl) h
/-! AllocationProfiler.exclude -/
theorem d_AP_exclude_0 : decode b_AP_exclude 0 = .ok (.aload_n 0, 1) := by decide +kernel
theorem d_AP_exclude_1 : decode b_AP_exclude 1 = .ok (.iload_n 1, 1) := by decide +kernel
theorem d_AP_exclude_2 : decode b_AP_exclude 2 = .ok (.invokevirtual 135, 3) := by decide +kernel
theorem d_AP_exclude_5 : decode b_AP_exclude 5 = .ok (.aload_n 0, 1) := by decide +kernel
theorem d_AP_exclude_6 : decode b_AP_exclude 6 = .ok (.getfield 59, 3) := by decide +kernel
theorem d_AP_exclude_9 : decode b_AP_exclude 9 = .ok (.ifCond .eq 13, 3) := by decide +kernel
theorem d_AP_exclude_12 : decode b_AP_exclude 12 = .ok (.new 85, 3) := by decide +kernel
theorem d_AP_exclude_15 : decode b_AP_exclude 15 = .ok (.dup, 1) := by decide +kernel
theorem d_AP_exclude_16 : decode b_AP_exclude 16 = .ok (.ldc 138, 2) := by decide +kernel
theorem d_AP_exclude_18 : decode b_AP_exclude 18 = .ok (.invokespecial 89, 3) := by decide +kernel
theorem d_AP_exclude_21 : decode b_AP_exclude 21 = .ok (.athrow, 1) := by decide +kernel
theorem d_AP_exclude_22 : decode b_AP_exclude 22 = .ok (.aload_n 0, 1) := by decide +kernel
theorem d_AP_exclude_23 : decode b_AP_exclude 23 = .ok (.getfield 25, 3) := by decide +kernel
theorem d_AP_exclude_26 : decode b_AP_exclude 26 = .ok (.iload_n 1, 1) := by decide +kernel
theorem d_AP_exclude_27 : decode b_AP_exclude 27 = .ok (.aaload, 1) := by decide +kernel
theorem d_AP_exclude_28 : decode b_AP_exclude 28 = .ok (.iconst 1, 1) := by decide +kernel
theorem d_AP_exclude_29 : decode b_AP_exclude 29 = .ok (.putfield 140, 3) := by decide +kernel
theorem d_AP_exclude_32 : decode b_AP_exclude 32 = .ok (.return_, 1) := by decide +kernel
def f_AP_exclude (x0 : Nat) (x1 : Int32) (M : fm_M) : Option ((Unit ⊕ String) × fm_M) :=
  (ck x0 9).bind fun _ =>
  xd (f_AP_needMethod x0 x1 M) fun _ M102 =>
  (gi x0 9 9 M102).bind fun x104 =>
  if x104 = 0 then
    (gr x0 9 2).bind fun q107 =>
    (ar q107 x1).bind fun q109 =>
    (pi q109 6 4 1 M102).bind fun M111 =>
    some (.inl (), M111)
  else
    some (.inr "java/lang/IllegalStateException", M102)
set_option maxHeartbeats 4000000 in
set_option maxRecDepth 100000 in
theorem c_AP_exclude (l : Launch) (hst : l.stackTraces = false) (G : fm_G) (x0 : Nat) (x1 : Int32) {v : Unit ⊕ String} {M M' : fm_M} (h : f_AP_exclude x0 x1 M = some (v, M')) : kxMet l y_AP_exclude b_AP_exclude 2 none 7 111 G M [.ref (G.2.2 + x0), .int x1] (xoV v) M' := by
  refine x_met hst (by decide) rfl (Nat.le_of_ble_eq_true rfl) (fun p e s m args below meth c C0 C1 hP ls hl => ?_)
  have hx := C0.1
  have hb := C0.2.1
  have hown := C0.2.2.2.2.1
  have hts := C0.2.2.2.2.2.1
  have hl : lv_has ls 2 [(0, .ref (G.2.2 + x0)), (1, .int x1)] := hl
  have hS : va_S (fm_A G.2.2) s.heap s.heap [] := va_S.rf
  unfold f_AP_exclude at h
  refine lv_aload_n hx hb d_AP_exclude_0 rfl (lv_at hl 0 rfl) ?_
  refine lv_iload_n hx hb d_AP_exclude_1 rfl (lv_at hl 1 rfl) ?_
  obtain ⟨_, e101, h⟩ := ob h
  rcases ob3 h with ⟨_, M102, e103, h⟩ | ⟨E9, e103, rfl⟩
  rotate_left
  · exact x_thrown (x_runV (o := .inr E9) C0 C1.2.1 L_AP_135 (As := [.int x1]) (c_AP_needMethod (v := .inr E9) l C1.1 G x0 x1 e103) ⟨Nat.le_of_ble_eq_true rfl, Nat.le_of_ble_eq_true rfl⟩ hP hS (ck_of e101) ly_AP rfl hl.1 rfl (Nat.le_of_ble_eq_true rfl) d_AP_exclude_2 ⟨Nat.le_refl 1, Nat.le_refl 6⟩) hS (fun H locs q9 ce hP hS h1 h2 h3 => x_out C0 C1 hP hS h1 h2 h3)
  refine x_backv (x_runV (o := .inl none) C0 C1.2.1 L_AP_135 (As := [.int x1]) (c_AP_needMethod (v := .inl ()) l C1.1 G x0 x1 e103) ⟨Nat.le_of_ble_eq_true rfl, Nat.le_of_ble_eq_true rfl⟩ hP hS (ck_of e101) ly_AP rfl hl.1 rfl (Nat.le_of_ble_eq_true rfl) d_AP_exclude_2 ⟨Nat.zero_le _, Nat.zero_le _⟩) hS (fun H locs hP hS => ?_)
  refine lv_aload_n hx hb d_AP_exclude_5 rfl (lv_at hl 0 rfl) ?_
  obtain ⟨x104, e105, h⟩ := ob h
  refine k_gi C0 F_AP_59 ik_9_9 hP e105 d_AP_exclude_6 ?_
  refine lv_if_eq (tgt := 22) hx hb d_AP_exclude_9 (by decide) (fun c106 => ?_) (fun c106 => ?_)
  · rw [if_pos c106] at h
    refine lv_aload_n hx hb d_AP_exclude_22 rfl (lv_at hl 0 rfl) ?_
    obtain ⟨q107, e108, h⟩ := ob h
    refine k_gr C0 F_AP_25 hP e108 d_AP_exclude_23 ?_
    refine lv_iload_n hx hb d_AP_exclude_26 rfl (lv_at hl 1 rfl) ?_
    obtain ⟨q109, e110, h⟩ := ob h
    refine k_ar C0 hP e110 d_AP_exclude_27 ?_
    refine lv_iconst (v := 1) hx hb d_AP_exclude_28 ic_1 ?_
    obtain ⟨M111, e112, h⟩ := ob h
    refine k_pz C0 F_AP_140p ik_6_4 hP hS (by decide) (by decide) e112 d_AP_exclude_29 (fun H locs hP hS => ?_)
    cases h
    exact x_ret (r_vret C0 hP hS d_AP_exclude_32)
  · rw [if_neg c106] at h
    cases h
    exact x_throw C0 C1 T_IllegalStateException (text := "it was woven") (by decide) hP hS hl.1 d_AP_exclude_12 d_AP_exclude_15 d_AP_exclude_16 d_AP_exclude_18 d_AP_exclude_21 (Nat.le_of_ble_eq_true rfl) (Nat.le_of_ble_eq_true rfl) (Nat.le_refl 1) (Nat.le_refl 6)
/-! AllocationProfiler.weave -/
theorem d_AP_weave_0 : decode b_AP_weave 0 = .ok (.iload_n 1, 1) := by decide +kernel
theorem d_AP_weave_1 : decode b_AP_weave 1 = .ok (.bipush 50, 2) := by decide +kernel
theorem d_AP_weave_3 : decode b_AP_weave 3 = .ok (.if_icmp .lt 9, 3) := by decide +kernel
theorem d_AP_weave_6 : decode b_AP_weave 6 = .ok (.iload_n 1, 1) := by decide +kernel
theorem d_AP_weave_7 : decode b_AP_weave 7 = .ok (.ldc 143, 2) := by decide +kernel
theorem d_AP_weave_9 : decode b_AP_weave 9 = .ok (.if_icmp .le 13, 3) := by decide +kernel
theorem d_AP_weave_12 : decode b_AP_weave 12 = .ok (.new 69, 3) := by decide +kernel
theorem d_AP_weave_15 : decode b_AP_weave 15 = .ok (.dup, 1) := by decide +kernel
theorem d_AP_weave_16 : decode b_AP_weave 16 = .ok (.ldc 144, 2) := by decide +kernel
theorem d_AP_weave_18 : decode b_AP_weave 18 = .ok (.invokespecial 73, 3) := by decide +kernel
theorem d_AP_weave_21 : decode b_AP_weave 21 = .ok (.athrow, 1) := by decide +kernel
theorem d_AP_weave_22 : decode b_AP_weave 22 = .ok (.aload_n 0, 1) := by decide +kernel
theorem d_AP_weave_23 : decode b_AP_weave 23 = .ok (.getfield 59, 3) := by decide +kernel
theorem d_AP_weave_26 : decode b_AP_weave 26 = .ok (.ifCond .ne 10, 3) := by decide +kernel
theorem d_AP_weave_29 : decode b_AP_weave 29 = .ok (.aload_n 0, 1) := by decide +kernel
theorem d_AP_weave_30 : decode b_AP_weave 30 = .ok (.getfield 52, 3) := by decide +kernel
theorem d_AP_weave_33 : decode b_AP_weave 33 = .ok (.ifCond .ne 13, 3) := by decide +kernel
theorem d_AP_weave_36 : decode b_AP_weave 36 = .ok (.new 85, 3) := by decide +kernel
theorem d_AP_weave_39 : decode b_AP_weave 39 = .ok (.dup, 1) := by decide +kernel
theorem d_AP_weave_40 : decode b_AP_weave 40 = .ok (.ldc 146, 2) := by decide +kernel
theorem d_AP_weave_42 : decode b_AP_weave 42 = .ok (.invokespecial 89, 3) := by decide +kernel
theorem d_AP_weave_45 : decode b_AP_weave 45 = .ok (.athrow, 1) := by decide +kernel
theorem d_AP_weave_46 : decode b_AP_weave 46 = .ok (.iconst 0, 1) := by decide +kernel
theorem d_AP_weave_47 : decode b_AP_weave 47 = .ok (.istore_n 2, 1) := by decide +kernel
theorem d_AP_weave_48 : decode b_AP_weave 48 = .ok (.iconst 0, 1) := by decide +kernel
theorem d_AP_weave_49 : decode b_AP_weave 49 = .ok (.istore_n 3, 1) := by decide +kernel
theorem d_AP_weave_50 : decode b_AP_weave 50 = .ok (.iload_n 3, 1) := by decide +kernel
theorem d_AP_weave_51 : decode b_AP_weave 51 = .ok (.aload_n 0, 1) := by decide +kernel
theorem d_AP_weave_52 : decode b_AP_weave 52 = .ok (.getfield 52, 3) := by decide +kernel
theorem d_AP_weave_55 : decode b_AP_weave 55 = .ok (.if_icmp .ge 20, 3) := by decide +kernel
theorem d_AP_weave_58 : decode b_AP_weave 58 = .ok (.aload_n 0, 1) := by decide +kernel
theorem d_AP_weave_59 : decode b_AP_weave 59 = .ok (.getfield 25, 3) := by decide +kernel
theorem d_AP_weave_62 : decode b_AP_weave 62 = .ok (.iload_n 3, 1) := by decide +kernel
theorem d_AP_weave_63 : decode b_AP_weave 63 = .ok (.aaload, 1) := by decide +kernel
theorem d_AP_weave_64 : decode b_AP_weave 64 = .ok (.iload_n 2, 1) := by decide +kernel
theorem d_AP_weave_65 : decode b_AP_weave 65 = .ok (.invokevirtual 148, 3) := by decide +kernel
theorem d_AP_weave_68 : decode b_AP_weave 68 = .ok (.istore_n 2, 1) := by decide +kernel
theorem d_AP_weave_69 : decode b_AP_weave 69 = .ok (.iinc 3 1, 3) := by decide +kernel
theorem d_AP_weave_72 : decode b_AP_weave 72 = .ok (.goto (-22), 3) := by decide +kernel
theorem d_AP_weave_75 : decode b_AP_weave 75 = .ok (.aload_n 0, 1) := by decide +kernel
theorem d_AP_weave_76 : decode b_AP_weave 76 = .ok (.getfield 35, 3) := by decide +kernel
theorem d_AP_weave_79 : decode b_AP_weave 79 = .ok (.iload_n 2, 1) := by decide +kernel
theorem d_AP_weave_80 : decode b_AP_weave 80 = .ok (.iload_n 1, 1) := by decide +kernel
theorem d_AP_weave_81 : decode b_AP_weave 81 = .ok (.invokevirtual 151, 3) := by decide +kernel
theorem d_AP_weave_84 : decode b_AP_weave 84 = .ok (.aload_n 0, 1) := by decide +kernel
theorem d_AP_weave_85 : decode b_AP_weave 85 = .ok (.iconst 1, 1) := by decide +kernel
theorem d_AP_weave_86 : decode b_AP_weave 86 = .ok (.putfield 59, 3) := by decide +kernel
theorem d_AP_weave_89 : decode b_AP_weave 89 = .ok (.iload_n 2, 1) := by decide +kernel
theorem d_AP_weave_90 : decode b_AP_weave 90 = .ok (.ireturn, 1) := by decide +kernel
def j_AP_weave_12  (M : fm_M) : Option ((Int32 ⊕ String) × fm_M) :=
  some (.inr "java/lang/IllegalArgumentException", M)
def j_AP_weave_36  (M : fm_M) : Option ((Int32 ⊕ String) × fm_M) :=
  some (.inr "java/lang/IllegalStateException", M)
def h_AP_weave_50 : Nat → Nat → Int32 → Int32 → Int32 → fm_M → Option ((Int32 ⊕ String) × fm_M)
  | 0, _, _, _, _, _ => none
  | n + 1, x0, x1, x2, x3, M =>
    (gi x0 9 7 M).bind fun x101 =>
    if x101 ≤ x3 then
      (gr x0 9 4).bind fun q104 =>
      (ck q104 4).bind fun _ =>
      (f_Ledger_open q104 x2 x1 M).bind fun M107 =>
      (pi x0 9 9 1 M107).bind fun M109 =>
      some (.inl x2, M109)
    else
      (gr x0 9 2).bind fun q111 =>
      (ar q111 x3).bind fun q113 =>
      (ck q113 6).bind fun _ =>
      bd (f_Method_weaveFrom q113 x2 M) fun x118 M116 =>
      h_AP_weave_50 n x0 x1 x118 (x3 + 1) M116
def f_AP_weave (x0 : Nat) (x1 : Int32) (M : fm_M) : Option ((Int32 ⊕ String) × fm_M) :=
  if x1 < 50 then
    j_AP_weave_12 M
  else
    if x1 ≤ 100000 then
      (gi x0 9 9 M).bind fun x121 =>
      if x121 = 0 then
        (gi x0 9 7 M).bind fun x124 =>
        if x124 = 0 then
          j_AP_weave_36 M
        else
          h_AP_weave_50 100000 x0 x1 0 0 M
      else
        j_AP_weave_36 M
    else
      j_AP_weave_12 M
set_option maxHeartbeats 4000000 in
set_option maxRecDepth 100000 in
theorem w_AP_weave_12 {p : Program} {l : Launch} {e : Env} {s : State} {m : MethodId} {args : Array Value} {below : List Frame} {meth : Method} {c : Code} {G : fm_G} (C0 : fm_C p s m args meth c G (.code y_AP_weave b_AP_weave 4 (some .int)) "AllocationProfiler" b_AP_weave 4 (some .int)) (C1 : fx_C l s c G) {v : Int32 ⊕ String} {M' : fm_M}  {M : fm_M} {H : Heap} {locs : List Loc} (hP : kP G M H) (hS : kS G s H locs) {ls : Array Slot} (hl : lv_has ls 4 []) (h : j_AP_weave_12  M = some (v, M')) : W p l e (fx_rm 6 90 (xoI v)) s m args below meth c H locs 0 0 (vx_MQ below (fx_Q G (xoI v) M') (fx_X G (xoI v) M') args s (fx_c (xoI v)) (fx_s (xoI v)) (fm_A G.2.2)) (F0 m 12 ls []) := by
  have hx := C0.1
  have hb := C0.2.1
  have hown := C0.2.2.2.2.1
  have hts := C0.2.2.2.2.2.1
  unfold j_AP_weave_12 at h
  cases h
  exact x_throw C0 C1 T_IllegalArgumentException (text := "no such interval") (by decide) hP hS hl.1 d_AP_weave_12 d_AP_weave_15 d_AP_weave_16 d_AP_weave_18 d_AP_weave_21 (Nat.le_of_ble_eq_true rfl) (Nat.le_of_ble_eq_true rfl) (Nat.le_refl 1) (Nat.le_refl 6)
set_option maxHeartbeats 4000000 in
set_option maxRecDepth 100000 in
theorem w_AP_weave_36 {p : Program} {l : Launch} {e : Env} {s : State} {m : MethodId} {args : Array Value} {below : List Frame} {meth : Method} {c : Code} {G : fm_G} (C0 : fm_C p s m args meth c G (.code y_AP_weave b_AP_weave 4 (some .int)) "AllocationProfiler" b_AP_weave 4 (some .int)) (C1 : fx_C l s c G) {v : Int32 ⊕ String} {M' : fm_M}  {M : fm_M} {H : Heap} {locs : List Loc} (hP : kP G M H) (hS : kS G s H locs) {ls : Array Slot} (hl : lv_has ls 4 []) (h : j_AP_weave_36  M = some (v, M')) : W p l e (fx_rm 6 90 (xoI v)) s m args below meth c H locs 0 0 (vx_MQ below (fx_Q G (xoI v) M') (fx_X G (xoI v) M') args s (fx_c (xoI v)) (fx_s (xoI v)) (fm_A G.2.2)) (F0 m 36 ls []) := by
  have hx := C0.1
  have hb := C0.2.1
  have hown := C0.2.2.2.2.1
  have hts := C0.2.2.2.2.2.1
  unfold j_AP_weave_36 at h
  cases h
  exact x_throw C0 C1 T_IllegalStateException (text := "nothing to weave") (by decide) hP hS hl.1 d_AP_weave_36 d_AP_weave_39 d_AP_weave_40 d_AP_weave_42 d_AP_weave_45 (Nat.le_of_ble_eq_true rfl) (Nat.le_of_ble_eq_true rfl) (Nat.le_refl 1) (Nat.le_refl 6)
set_option maxHeartbeats 4000000 in
set_option maxRecDepth 100000 in
theorem w_AP_weave_50 {p : Program} {l : Launch} {e : Env} {s : State} {m : MethodId} {args : Array Value} {below : List Frame} {meth : Method} {c : Code} {G : fm_G} (C0 : fm_C p s m args meth c G (.code y_AP_weave b_AP_weave 4 (some .int)) "AllocationProfiler" b_AP_weave 4 (some .int)) (C1 : fx_C l s c G) {v : Int32 ⊕ String} {M' : fm_M} : ∀ (n : Nat) (x0 : Nat) (x1 : Int32) (x2 : Int32) (x3 : Int32) {M : fm_M} {H : Heap} {locs : List Loc}, kP G M H → kS G s H locs → ∀ {ls : Array Slot}, lv_has ls 4 [(0, .ref (G.2.2 + x0)), (1, .int x1), (2, .int x2), (3, .int x3)] → h_AP_weave_50 n x0 x1 x2 x3 M = some (v, M') → W p l e (fx_rm 6 90 (xoI v)) s m args below meth c H locs 0 0 (vx_MQ below (fx_Q G (xoI v) M') (fx_X G (xoI v) M') args s (fx_c (xoI v)) (fx_s (xoI v)) (fm_A G.2.2)) (F0 m 50 ls []) := by
  have hx := C0.1
  have hb := C0.2.1
  have hown := C0.2.2.2.2.1
  have hts := C0.2.2.2.2.2.1
  intro n
  induction n with
  | zero =>
    intro x0 x1 x2 x3 M H locs hP hS ls hl h
    exact nomatch h
  | succ n ih =>
    intro x0 x1 x2 x3 M H locs hP hS ls hl h
    have h : ((gi x0 9 7 M).bind fun x101 =>
      if x101 ≤ x3 then
        (gr x0 9 4).bind fun q104 =>
        (ck q104 4).bind fun _ =>
        (f_Ledger_open q104 x2 x1 M).bind fun M107 =>
        (pi x0 9 9 1 M107).bind fun M109 =>
        some (.inl x2, M109)
      else
        (gr x0 9 2).bind fun q111 =>
        (ar q111 x3).bind fun q113 =>
        (ck q113 6).bind fun _ =>
        bd (f_Method_weaveFrom q113 x2 M) fun x118 M116 =>
        h_AP_weave_50 n x0 x1 x118 (x3 + 1) M116) = some (v, M') := h
    refine lv_iload_n hx hb d_AP_weave_50 rfl (lv_at hl 3 rfl) ?_
    refine lv_aload_n hx hb d_AP_weave_51 rfl (lv_at hl 0 rfl) ?_
    obtain ⟨x101, e102, h⟩ := ob h
    refine k_gi C0 F_AP_52 ik_9_7 hP e102 d_AP_weave_52 ?_
    refine lv_icmp_ge (tgt := 75) hx hb d_AP_weave_55 (by decide) (fun c103 => ?_) (fun c103 => ?_)
    · rw [if_pos c103] at h
      refine lv_aload_n hx hb d_AP_weave_75 rfl (lv_at hl 0 rfl) ?_
      obtain ⟨q104, e105, h⟩ := ob h
      refine k_gr C0 F_AP_35 hP e105 d_AP_weave_76 ?_
      refine lv_iload_n hx hb d_AP_weave_79 rfl (lv_at hl 2 rfl) ?_
      refine lv_iload_n hx hb d_AP_weave_80 rfl (lv_at hl 1 rfl) ?_
      obtain ⟨_, e106, h⟩ := ob h
      obtain ⟨M107, e108, h⟩ := ob h
      refine k_cVv C0 L_AP_151 (As := [.int x2, .int x1]) (c_Ledger_open l G q104 x2 x1 e108) ⟨rfl, rfl⟩ ⟨Nat.le_of_ble_eq_true rfl, Nat.le_of_ble_eq_true rfl⟩ hP hS (ck_of e106) ly_Ledger rfl hl.1 rfl (Nat.le_of_ble_eq_true rfl) d_AP_weave_81 ⟨Nat.zero_le _, Nat.zero_le _⟩ (fun H locs hP hS => ?_)
      refine lv_aload_n hx hb d_AP_weave_84 rfl (lv_at hl 0 rfl) ?_
      refine lv_iconst (v := 1) hx hb d_AP_weave_85 ic_1 ?_
      obtain ⟨M109, e110, h⟩ := ob h
      refine k_pz C0 F_AP_59p ik_9_9 hP hS (by decide) (by decide) e110 d_AP_weave_86 (fun H locs hP hS => ?_)
      refine lv_iload_n hx hb d_AP_weave_89 rfl (lv_at hl 2 rfl) ?_
      cases h
      exact x_ret (r_iret C0 hP hS d_AP_weave_90)
    · rw [if_neg c103] at h
      refine lv_aload_n hx hb d_AP_weave_58 rfl (lv_at hl 0 rfl) ?_
      obtain ⟨q111, e112, h⟩ := ob h
      refine k_gr C0 F_AP_25 hP e112 d_AP_weave_59 ?_
      refine lv_iload_n hx hb d_AP_weave_62 rfl (lv_at hl 3 rfl) ?_
      obtain ⟨q113, e114, h⟩ := ob h
      refine k_ar C0 hP e114 d_AP_weave_63 ?_
      refine lv_iload_n hx hb d_AP_weave_64 rfl (lv_at hl 2 rfl) ?_
      obtain ⟨_, e115, h⟩ := ob h
      obtain ⟨x118, M116, e117, h⟩ := ob2 h
      refine k_cV C0 L_AP_148 (As := [.int x2]) (c_Method_weaveFrom l G q113 x2 e117) ⟨rfl, rfl⟩ ⟨Nat.le_of_ble_eq_true rfl, Nat.le_of_ble_eq_true rfl⟩ hP hS (ck_of e115) ly_Method rfl hl.1 rfl (Nat.le_of_ble_eq_true rfl) d_AP_weave_65 ⟨Nat.zero_le _, Nat.zero_le _⟩ (fun H locs hP hS => ?_)
      refine lv_istore_n (lv' := [(2, .int x118), (0, .ref (G.2.2 + x0)), (1, .int x1), (3, .int x3)]) hx hb d_AP_weave_68 rfl hl (by decide) rfl (fun ls hl => ?_)
      refine lv_iinc (v := (x3 + 1)) (lv' := [(3, .int (x3 + 1)), (2, .int x118), (0, .ref (G.2.2 + x0)), (1, .int x1)]) hx hb d_AP_weave_69 hl (k := 3) rfl (congrArg (fun z => x3 + z) ic_1) (by decide) rfl (fun ls hl => ?_)
      refine lv_goto (tgt := 50) hx hb d_AP_weave_72 (by decide) ?_
      exact ih x0 x1 x118 (x3 + 1) hP hS (lv_sub hl [2, 3, 1, 0] rfl) h
set_option maxHeartbeats 4000000 in
set_option maxRecDepth 100000 in
theorem c_AP_weave (l : Launch) (hst : l.stackTraces = false) (G : fm_G) (x0 : Nat) (x1 : Int32) {v : Int32 ⊕ String} {M M' : fm_M} (h : f_AP_weave x0 x1 M = some (v, M')) : kxMet l y_AP_weave b_AP_weave 4 (some .int) 6 90 G M [.ref (G.2.2 + x0), .int x1] (xoI v) M' := by
  refine x_met hst (by decide) rfl (Nat.le_of_ble_eq_true rfl) (fun p e s m args below meth c C0 C1 hP ls hl => ?_)
  have hx := C0.1
  have hb := C0.2.1
  have hown := C0.2.2.2.2.1
  have hts := C0.2.2.2.2.2.1
  have hl : lv_has ls 4 [(0, .ref (G.2.2 + x0)), (1, .int x1)] := hl
  have hS : va_S (fm_A G.2.2) s.heap s.heap [] := va_S.rf
  unfold f_AP_weave at h
  refine lv_iload_n hx hb d_AP_weave_0 rfl (lv_at hl 1 rfl) ?_
  refine lv_bipush (v := 50) hx hb d_AP_weave_1 bp_50 ?_
  refine lv_icmp_lt (tgt := 12) hx hb d_AP_weave_3 (by decide) (fun c119 => ?_) (fun c119 => ?_)
  · rw [if_pos c119] at h
    exact w_AP_weave_12 C0 C1 hP hS (lv_sub hl [] rfl) h
  · rw [if_neg c119] at h
    refine lv_iload_n hx hb d_AP_weave_6 rfl (lv_at hl 1 rfl) ?_
    refine lv_ldc (v := 100000) hx hb hown (hts _ (List.mem_cons_of_mem _ (gT_in 604 (by decide +kernel) rfl))) d_AP_weave_7 ?_
    refine lv_icmp_le (tgt := 22) hx hb d_AP_weave_9 (by decide) (fun c120 => ?_) (fun c120 => ?_)
    · rw [if_pos c120] at h
      refine lv_aload_n hx hb d_AP_weave_22 rfl (lv_at hl 0 rfl) ?_
      obtain ⟨x121, e122, h⟩ := ob h
      refine k_gi C0 F_AP_59 ik_9_9 hP e122 d_AP_weave_23 ?_
      refine lv_if_ne (tgt := 36) hx hb d_AP_weave_26 (by decide) (fun c123 => ?_) (fun c123 => ?_)
      · rw [if_neg c123] at h
        exact w_AP_weave_36 C0 C1 hP hS (lv_sub hl [] rfl) h
      · rw [if_pos c123] at h
        refine lv_aload_n hx hb d_AP_weave_29 rfl (lv_at hl 0 rfl) ?_
        obtain ⟨x124, e125, h⟩ := ob h
        refine k_gi C0 F_AP_52 ik_9_7 hP e125 d_AP_weave_30 ?_
        refine lv_if_ne (tgt := 46) hx hb d_AP_weave_33 (by decide) (fun c126 => ?_) (fun c126 => ?_)
        · rw [if_neg c126] at h
          refine lv_iconst (v := 0) hx hb d_AP_weave_46 ic_0 ?_
          refine lv_istore_n (lv' := [(2, .int 0), (0, .ref (G.2.2 + x0)), (1, .int x1)]) hx hb d_AP_weave_47 rfl hl (by decide) rfl (fun ls hl => ?_)
          refine lv_iconst (v := 0) hx hb d_AP_weave_48 ic_0 ?_
          refine lv_istore_n (lv' := [(3, .int 0), (2, .int 0), (0, .ref (G.2.2 + x0)), (1, .int x1)]) hx hb d_AP_weave_49 rfl hl (by decide) rfl (fun ls hl => ?_)
          exact w_AP_weave_50 C0 C1 100000 x0 x1 0 0 hP hS (lv_sub hl [2, 3, 1, 0] rfl) h
        · rw [if_pos c126] at h
          exact w_AP_weave_36 C0 C1 hP hS (lv_sub hl [] rfl) h
    · rw [if_neg c120] at h
      exact w_AP_weave_12 C0 C1 hP hS (lv_sub hl [] rfl) h
/-! AllocationProfiler.length -/
theorem d_AP_length_0 : decode b_AP_length 0 = .ok (.aload_n 0, 1) := by decide +kernel
theorem d_AP_length_1 : decode b_AP_length 1 = .ok (.iload_n 1, 1) := by decide +kernel
theorem d_AP_length_2 : decode b_AP_length 2 = .ok (.invokevirtual 135, 3) := by decide +kernel
theorem d_AP_length_5 : decode b_AP_length 5 = .ok (.iload_n 2, 1) := by decide +kernel
theorem d_AP_length_6 : decode b_AP_length 6 = .ok (.ifCond .eq 18, 3) := by decide +kernel
theorem d_AP_length_9 : decode b_AP_length 9 = .ok (.aload_n 0, 1) := by decide +kernel
theorem d_AP_length_10 : decode b_AP_length 10 = .ok (.getfield 25, 3) := by decide +kernel
theorem d_AP_length_13 : decode b_AP_length 13 = .ok (.iload_n 1, 1) := by decide +kernel
theorem d_AP_length_14 : decode b_AP_length 14 = .ok (.aaload, 1) := by decide +kernel
theorem d_AP_length_15 : decode b_AP_length 15 = .ok (.getfield 157, 3) := by decide +kernel
theorem d_AP_length_18 : decode b_AP_length 18 = .ok (.getfield 160, 3) := by decide +kernel
theorem d_AP_length_21 : decode b_AP_length 21 = .ok (.goto 15, 3) := by decide +kernel
theorem d_AP_length_24 : decode b_AP_length 24 = .ok (.aload_n 0, 1) := by decide +kernel
theorem d_AP_length_25 : decode b_AP_length 25 = .ok (.getfield 25, 3) := by decide +kernel
theorem d_AP_length_28 : decode b_AP_length 28 = .ok (.iload_n 1, 1) := by decide +kernel
theorem d_AP_length_29 : decode b_AP_length 29 = .ok (.aaload, 1) := by decide +kernel
theorem d_AP_length_30 : decode b_AP_length 30 = .ok (.getfield 163, 3) := by decide +kernel
theorem d_AP_length_33 : decode b_AP_length 33 = .ok (.getfield 160, 3) := by decide +kernel
theorem d_AP_length_36 : decode b_AP_length 36 = .ok (.ireturn, 1) := by decide +kernel
def f_AP_length (x0 : Nat) (x1 : Int32) (x2 : Int32) (M : fm_M) : Option ((Int32 ⊕ String) × fm_M) :=
  (ck x0 9).bind fun _ =>
  xd (f_AP_needMethod x0 x1 M) fun _ M102 =>
  if x2 = 0 then
    (gr x0 9 2).bind fun q105 =>
    (ar q105 x1).bind fun q107 =>
    (gr q107 6 0).bind fun q109 =>
    (gi q109 1 5 M102).bind fun x111 =>
    some (.inl x111, M102)
  else
    (gr x0 9 2).bind fun q113 =>
    (ar q113 x1).bind fun q115 =>
    (gr q115 6 1).bind fun q117 =>
    (gi q117 1 5 M102).bind fun x119 =>
    some (.inl x119, M102)
set_option maxHeartbeats 4000000 in
set_option maxRecDepth 100000 in
theorem c_AP_length (l : Launch) (hst : l.stackTraces = false) (G : fm_G) (x0 : Nat) (x1 : Int32) (x2 : Int32) {v : Int32 ⊕ String} {M M' : fm_M} (h : f_AP_length x0 x1 x2 M = some (v, M')) : kxMet l y_AP_length b_AP_length 3 (some .int) 7 111 G M [.ref (G.2.2 + x0), .int x1, .int x2] (xoI v) M' := by
  refine x_met hst (by decide) rfl (Nat.le_of_ble_eq_true rfl) (fun p e s m args below meth c C0 C1 hP ls hl => ?_)
  have hx := C0.1
  have hb := C0.2.1
  have hl : lv_has ls 3 [(0, .ref (G.2.2 + x0)), (1, .int x1), (2, .int x2)] := hl
  have hS : va_S (fm_A G.2.2) s.heap s.heap [] := va_S.rf
  unfold f_AP_length at h
  refine lv_aload_n hx hb d_AP_length_0 rfl (lv_at hl 0 rfl) ?_
  refine lv_iload_n hx hb d_AP_length_1 rfl (lv_at hl 1 rfl) ?_
  obtain ⟨_, e101, h⟩ := ob h
  rcases ob3 h with ⟨_, M102, e103, h⟩ | ⟨E9, e103, rfl⟩
  rotate_left
  · exact x_thrown (x_runV (o := .inr E9) C0 C1.2.1 L_AP_135 (As := [.int x1]) (c_AP_needMethod (v := .inr E9) l C1.1 G x0 x1 e103) ⟨Nat.le_of_ble_eq_true rfl, Nat.le_of_ble_eq_true rfl⟩ hP hS (ck_of e101) ly_AP rfl hl.1 rfl (Nat.le_of_ble_eq_true rfl) d_AP_length_2 ⟨Nat.le_refl 1, Nat.le_refl 6⟩) hS (fun H locs q9 ce hP hS h1 h2 h3 => x_out C0 C1 hP hS h1 h2 h3)
  refine x_backv (x_runV (o := .inl none) C0 C1.2.1 L_AP_135 (As := [.int x1]) (c_AP_needMethod (v := .inl ()) l C1.1 G x0 x1 e103) ⟨Nat.le_of_ble_eq_true rfl, Nat.le_of_ble_eq_true rfl⟩ hP hS (ck_of e101) ly_AP rfl hl.1 rfl (Nat.le_of_ble_eq_true rfl) d_AP_length_2 ⟨Nat.zero_le _, Nat.zero_le _⟩) hS (fun H locs hP hS => ?_)
  refine lv_iload_n hx hb d_AP_length_5 rfl (lv_at hl 2 rfl) ?_
  refine lv_if_eq (tgt := 24) hx hb d_AP_length_6 (by decide) (fun c104 => ?_) (fun c104 => ?_)
  · rw [if_pos c104] at h
    refine lv_aload_n hx hb d_AP_length_24 rfl (lv_at hl 0 rfl) ?_
    obtain ⟨q105, e106, h⟩ := ob h
    refine k_gr C0 F_AP_25 hP e106 d_AP_length_25 ?_
    refine lv_iload_n hx hb d_AP_length_28 rfl (lv_at hl 1 rfl) ?_
    obtain ⟨q107, e108, h⟩ := ob h
    refine k_ar C0 hP e108 d_AP_length_29 ?_
    obtain ⟨q109, e110, h⟩ := ob h
    refine k_gr C0 F_AP_163 hP e110 d_AP_length_30 ?_
    obtain ⟨x111, e112, h⟩ := ob h
    refine k_gi C0 F_AP_160 ik_1_5 hP e112 d_AP_length_33 ?_
    cases h
    exact x_ret (r_iret C0 hP hS d_AP_length_36)
  · rw [if_neg c104] at h
    refine lv_aload_n hx hb d_AP_length_9 rfl (lv_at hl 0 rfl) ?_
    obtain ⟨q113, e114, h⟩ := ob h
    refine k_gr C0 F_AP_25 hP e114 d_AP_length_10 ?_
    refine lv_iload_n hx hb d_AP_length_13 rfl (lv_at hl 1 rfl) ?_
    obtain ⟨q115, e116, h⟩ := ob h
    refine k_ar C0 hP e116 d_AP_length_14 ?_
    obtain ⟨q117, e118, h⟩ := ob h
    refine k_gr C0 F_AP_157 hP e118 d_AP_length_15 ?_
    obtain ⟨x119, e120, h⟩ := ob h
    refine k_gi C0 F_AP_160 ik_1_5 hP e120 d_AP_length_18 ?_
    refine lv_goto (tgt := 36) hx hb d_AP_length_21 (by decide) ?_
    cases h
    exact x_ret (r_iret C0 hP hS d_AP_length_36)
/-! AllocationProfiler.code -/
theorem d_AP_code_0 : decode b_AP_code 0 = .ok (.aload_n 0, 1) := by decide +kernel
theorem d_AP_code_1 : decode b_AP_code 1 = .ok (.iload_n 1, 1) := by decide +kernel
theorem d_AP_code_2 : decode b_AP_code 2 = .ok (.invokevirtual 135, 3) := by decide +kernel
theorem d_AP_code_5 : decode b_AP_code 5 = .ok (.iload_n 3, 1) := by decide +kernel
theorem d_AP_code_6 : decode b_AP_code 6 = .ok (.ifCond .lt 8, 3) := by decide +kernel
theorem d_AP_code_9 : decode b_AP_code 9 = .ok (.iload_n 3, 1) := by decide +kernel
theorem d_AP_code_10 : decode b_AP_code 10 = .ok (.iconst 4, 1) := by decide +kernel
theorem d_AP_code_11 : decode b_AP_code 11 = .ok (.if_icmp .le 13, 3) := by decide +kernel
theorem d_AP_code_14 : decode b_AP_code 14 = .ok (.new 69, 3) := by decide +kernel
theorem d_AP_code_17 : decode b_AP_code 17 = .ok (.dup, 1) := by decide +kernel
theorem d_AP_code_18 : decode b_AP_code 18 = .ok (.ldc 166, 2) := by decide +kernel
theorem d_AP_code_20 : decode b_AP_code 20 = .ok (.invokespecial 73, 3) := by decide +kernel
theorem d_AP_code_23 : decode b_AP_code 23 = .ok (.athrow, 1) := by decide +kernel
theorem d_AP_code_24 : decode b_AP_code 24 = .ok (.aload_n 0, 1) := by decide +kernel
theorem d_AP_code_25 : decode b_AP_code 25 = .ok (.getfield 25, 3) := by decide +kernel
theorem d_AP_code_28 : decode b_AP_code 28 = .ok (.iload_n 1, 1) := by decide +kernel
theorem d_AP_code_29 : decode b_AP_code 29 = .ok (.aaload, 1) := by decide +kernel
theorem d_AP_code_30 : decode b_AP_code 30 = .ok (.getfield 157, 3) := by decide +kernel
theorem d_AP_code_33 : decode b_AP_code 33 = .ok (.astore 4, 2) := by decide +kernel
theorem d_AP_code_35 : decode b_AP_code 35 = .ok (.iload_n 3, 1) := by decide +kernel
theorem d_AP_code_36 : decode b_AP_code 36 = .ok (.iconst 2, 1) := by decide +kernel
theorem d_AP_code_37 : decode b_AP_code 37 = .ok (.if_icmp .ge 15, 3) := by decide +kernel
theorem d_AP_code_40 : decode b_AP_code 40 = .ok (.aload 4, 2) := by decide +kernel
theorem d_AP_code_42 : decode b_AP_code 42 = .ok (.iload_n 2, 1) := by decide +kernel
theorem d_AP_code_43 : decode b_AP_code 43 = .ok (.invokevirtual 168, 3) := by decide +kernel
theorem d_AP_code_46 : decode b_AP_code 46 = .ok (.ifCond .ne 25, 3) := by decide +kernel
theorem d_AP_code_49 : decode b_AP_code 49 = .ok (.goto 12, 3) := by decide +kernel
theorem d_AP_code_52 : decode b_AP_code 52 = .ok (.aload 4, 2) := by decide +kernel
theorem d_AP_code_54 : decode b_AP_code 54 = .ok (.iload_n 2, 1) := by decide +kernel
theorem d_AP_code_55 : decode b_AP_code 55 = .ok (.invokevirtual 169, 3) := by decide +kernel
theorem d_AP_code_58 : decode b_AP_code 58 = .ok (.ifCond .ne 13, 3) := by decide +kernel
theorem d_AP_code_61 : decode b_AP_code 61 = .ok (.new 172, 3) := by decide +kernel
theorem d_AP_code_64 : decode b_AP_code 64 = .ok (.dup, 1) := by decide +kernel
theorem d_AP_code_65 : decode b_AP_code 65 = .ok (.ldc 174, 2) := by decide +kernel
theorem d_AP_code_67 : decode b_AP_code 67 = .ok (.invokespecial 176, 3) := by decide +kernel
theorem d_AP_code_70 : decode b_AP_code 70 = .ok (.athrow, 1) := by decide +kernel
theorem d_AP_code_71 : decode b_AP_code 71 = .ok (.aload 4, 2) := by decide +kernel
theorem d_AP_code_73 : decode b_AP_code 73 = .ok (.iload_n 2, 1) := by decide +kernel
theorem d_AP_code_74 : decode b_AP_code 74 = .ok (.iload_n 3, 1) := by decide +kernel
theorem d_AP_code_75 : decode b_AP_code 75 = .ok (.invokevirtual 177, 3) := by decide +kernel
theorem d_AP_code_78 : decode b_AP_code 78 = .ok (.ireturn, 1) := by decide +kernel
def j_AP_code_14  (M : fm_M) : Option ((Int32 ⊕ String) × fm_M) :=
  some (.inr "java/lang/IllegalArgumentException", M)
def j_AP_code_61  (M : fm_M) : Option ((Int32 ⊕ String) × fm_M) :=
  some (.inr "java/lang/IndexOutOfBoundsException", M)
def j_AP_code_71 (x2 : Int32) (x3 : Int32) (x4 : Nat) (M : fm_M) : Option ((Int32 ⊕ String) × fm_M) :=
  (ck x4 1).bind fun _ =>
  bd (f_Code_part x4 x2 x3 M) fun x104 M102 =>
  some (.inl x104, M102)
def f_AP_code (x0 : Nat) (x1 : Int32) (x2 : Int32) (x3 : Int32) (M : fm_M) : Option ((Int32 ⊕ String) × fm_M) :=
  (ck x0 9).bind fun _ =>
  xd (f_AP_needMethod x0 x1 M) fun _ M106 =>
  if x3 < 0 then
    j_AP_code_14 M106
  else
    if x3 ≤ 4 then
      (gr x0 9 2).bind fun q110 =>
      (ar q110 x1).bind fun q112 =>
      (gr q112 6 1).bind fun q114 =>
      if 2 ≤ x3 then
        (ck q114 1).bind fun _ =>
        bd (f_Code_hasRange q114 x2 M106) fun x120 M118 =>
        if x120 = 0 then
          j_AP_code_61 M118
        else
          j_AP_code_71 x2 x3 q114 M118
      else
        (ck q114 1).bind fun _ =>
        bd (f_Code_has q114 x2 M106) fun x125 M123 =>
        if x125 = 0 then
          j_AP_code_61 M123
        else
          j_AP_code_71 x2 x3 q114 M123
    else
      j_AP_code_14 M106
set_option maxHeartbeats 4000000 in
set_option maxRecDepth 100000 in
theorem w_AP_code_14 {p : Program} {l : Launch} {e : Env} {s : State} {m : MethodId} {args : Array Value} {below : List Frame} {meth : Method} {c : Code} {G : fm_G} (C0 : fm_C p s m args meth c G (.code y_AP_code b_AP_code 5 (some .int)) "AllocationProfiler" b_AP_code 5 (some .int)) (C1 : fx_C l s c G) {v : Int32 ⊕ String} {M' : fm_M}  {M : fm_M} {H : Heap} {locs : List Loc} (hP : kP G M H) (hS : kS G s H locs) {ls : Array Slot} (hl : lv_has ls 5 []) (h : j_AP_code_14  M = some (v, M')) : W p l e (fx_rm 7 111 (xoI v)) s m args below meth c H locs 0 0 (vx_MQ below (fx_Q G (xoI v) M') (fx_X G (xoI v) M') args s (fx_c (xoI v)) (fx_s (xoI v)) (fm_A G.2.2)) (F0 m 14 ls []) := by
  have hx := C0.1
  have hb := C0.2.1
  have hown := C0.2.2.2.2.1
  have hts := C0.2.2.2.2.2.1
  unfold j_AP_code_14 at h
  cases h
  exact x_throw C0 C1 T_IllegalArgumentException (text := "no such what") (by decide) hP hS hl.1 d_AP_code_14 d_AP_code_17 d_AP_code_18 d_AP_code_20 d_AP_code_23 (Nat.le_of_ble_eq_true rfl) (Nat.le_of_ble_eq_true rfl) (Nat.le_refl 1) (Nat.le_refl 6)
set_option maxHeartbeats 4000000 in
set_option maxRecDepth 100000 in
theorem w_AP_code_61 {p : Program} {l : Launch} {e : Env} {s : State} {m : MethodId} {args : Array Value} {below : List Frame} {meth : Method} {c : Code} {G : fm_G} (C0 : fm_C p s m args meth c G (.code y_AP_code b_AP_code 5 (some .int)) "AllocationProfiler" b_AP_code 5 (some .int)) (C1 : fx_C l s c G) {v : Int32 ⊕ String} {M' : fm_M}  {M : fm_M} {H : Heap} {locs : List Loc} (hP : kP G M H) (hS : kS G s H locs) {ls : Array Slot} (hl : lv_has ls 5 []) (h : j_AP_code_61  M = some (v, M')) : W p l e (fx_rm 7 111 (xoI v)) s m args below meth c H locs 0 0 (vx_MQ below (fx_Q G (xoI v) M') (fx_X G (xoI v) M') args s (fx_c (xoI v)) (fx_s (xoI v)) (fm_A G.2.2)) (F0 m 61 ls []) := by
  have hx := C0.1
  have hb := C0.2.1
  have hown := C0.2.2.2.2.1
  have hts := C0.2.2.2.2.2.1
  unfold j_AP_code_61 at h
  cases h
  exact x_throw C0 C1 T_IndexOutOfBoundsException (text := "no such i") (by decide) hP hS hl.1 d_AP_code_61 d_AP_code_64 d_AP_code_65 d_AP_code_67 d_AP_code_70 (Nat.le_of_ble_eq_true rfl) (Nat.le_of_ble_eq_true rfl) (Nat.le_refl 1) (Nat.le_refl 6)
set_option maxHeartbeats 4000000 in
set_option maxRecDepth 100000 in
theorem w_AP_code_71 {p : Program} {l : Launch} {e : Env} {s : State} {m : MethodId} {args : Array Value} {below : List Frame} {meth : Method} {c : Code} {G : fm_G} (C0 : fm_C p s m args meth c G (.code y_AP_code b_AP_code 5 (some .int)) "AllocationProfiler" b_AP_code 5 (some .int)) (C1 : fx_C l s c G) {v : Int32 ⊕ String} {M' : fm_M} (x2 : Int32) (x3 : Int32) (x4 : Nat) {M : fm_M} {H : Heap} {locs : List Loc} (hP : kP G M H) (hS : kS G s H locs) {ls : Array Slot} (hl : lv_has ls 5 [(2, .int x2), (3, .int x3), (4, .ref (G.2.2 + x4))]) (h : j_AP_code_71 x2 x3 x4 M = some (v, M')) : W p l e (fx_rm 7 111 (xoI v)) s m args below meth c H locs 0 0 (vx_MQ below (fx_Q G (xoI v) M') (fx_X G (xoI v) M') args s (fx_c (xoI v)) (fx_s (xoI v)) (fm_A G.2.2)) (F0 m 71 ls []) := by
  have hx := C0.1
  have hb := C0.2.1
  have hown := C0.2.2.2.2.1
  have hts := C0.2.2.2.2.2.1
  unfold j_AP_code_71 at h
  refine lv_aload hx hb d_AP_code_71 (lv_at hl 2 rfl) ?_
  refine lv_iload_n hx hb d_AP_code_73 rfl (lv_at hl 0 rfl) ?_
  refine lv_iload_n hx hb d_AP_code_74 rfl (lv_at hl 1 rfl) ?_
  obtain ⟨_, e101, h⟩ := ob h
  obtain ⟨x104, M102, e103, h⟩ := ob2 h
  refine k_cV C0 L_AP_177 (As := [.int x2, .int x3]) (c_Code_part l G x4 x2 x3 e103) ⟨rfl, rfl⟩ ⟨Nat.le_of_ble_eq_true rfl, Nat.le_of_ble_eq_true rfl⟩ hP hS (ck_of e101) ly_Code rfl hl.1 rfl (Nat.le_of_ble_eq_true rfl) d_AP_code_75 ⟨Nat.zero_le _, Nat.zero_le _⟩ (fun H locs hP hS => ?_)
  cases h
  exact x_ret (r_iret C0 hP hS d_AP_code_78)
set_option maxHeartbeats 4000000 in
set_option maxRecDepth 100000 in
theorem c_AP_code (l : Launch) (hst : l.stackTraces = false) (G : fm_G) (x0 : Nat) (x1 : Int32) (x2 : Int32) (x3 : Int32) {v : Int32 ⊕ String} {M M' : fm_M} (h : f_AP_code x0 x1 x2 x3 M = some (v, M')) : kxMet l y_AP_code b_AP_code 5 (some .int) 7 111 G M [.ref (G.2.2 + x0), .int x1, .int x2, .int x3] (xoI v) M' := by
  refine x_met hst (by decide) rfl (Nat.le_of_ble_eq_true rfl) (fun p e s m args below meth c C0 C1 hP ls hl => ?_)
  have hx := C0.1
  have hb := C0.2.1
  have hown := C0.2.2.2.2.1
  have hts := C0.2.2.2.2.2.1
  have hl : lv_has ls 5 [(0, .ref (G.2.2 + x0)), (1, .int x1), (2, .int x2), (3, .int x3)] := hl
  have hS : va_S (fm_A G.2.2) s.heap s.heap [] := va_S.rf
  unfold f_AP_code at h
  refine lv_aload_n hx hb d_AP_code_0 rfl (lv_at hl 0 rfl) ?_
  refine lv_iload_n hx hb d_AP_code_1 rfl (lv_at hl 1 rfl) ?_
  obtain ⟨_, e105, h⟩ := ob h
  rcases ob3 h with ⟨_, M106, e107, h⟩ | ⟨E9, e107, rfl⟩
  rotate_left
  · exact x_thrown (x_runV (o := .inr E9) C0 C1.2.1 L_AP_135 (As := [.int x1]) (c_AP_needMethod (v := .inr E9) l C1.1 G x0 x1 e107) ⟨Nat.le_of_ble_eq_true rfl, Nat.le_of_ble_eq_true rfl⟩ hP hS (ck_of e105) ly_AP rfl hl.1 rfl (Nat.le_of_ble_eq_true rfl) d_AP_code_2 ⟨Nat.le_refl 1, Nat.le_refl 6⟩) hS (fun H locs q9 ce hP hS h1 h2 h3 => x_out C0 C1 hP hS h1 h2 h3)
  refine x_backv (x_runV (o := .inl none) C0 C1.2.1 L_AP_135 (As := [.int x1]) (c_AP_needMethod (v := .inl ()) l C1.1 G x0 x1 e107) ⟨Nat.le_of_ble_eq_true rfl, Nat.le_of_ble_eq_true rfl⟩ hP hS (ck_of e105) ly_AP rfl hl.1 rfl (Nat.le_of_ble_eq_true rfl) d_AP_code_2 ⟨Nat.zero_le _, Nat.zero_le _⟩) hS (fun H locs hP hS => ?_)
  refine lv_iload_n hx hb d_AP_code_5 rfl (lv_at hl 3 rfl) ?_
  refine lv_if_lt (tgt := 14) hx hb d_AP_code_6 (by decide) (fun c108 => ?_) (fun c108 => ?_)
  · rw [if_pos c108] at h
    exact w_AP_code_14 C0 C1 hP hS (lv_sub hl [] rfl) h
  · rw [if_neg c108] at h
    refine lv_iload_n hx hb d_AP_code_9 rfl (lv_at hl 3 rfl) ?_
    refine lv_iconst (v := 4) hx hb d_AP_code_10 ic_4 ?_
    refine lv_icmp_le (tgt := 24) hx hb d_AP_code_11 (by decide) (fun c109 => ?_) (fun c109 => ?_)
    · rw [if_pos c109] at h
      refine lv_aload_n hx hb d_AP_code_24 rfl (lv_at hl 0 rfl) ?_
      obtain ⟨q110, e111, h⟩ := ob h
      refine k_gr C0 F_AP_25 hP e111 d_AP_code_25 ?_
      refine lv_iload_n hx hb d_AP_code_28 rfl (lv_at hl 1 rfl) ?_
      obtain ⟨q112, e113, h⟩ := ob h
      refine k_ar C0 hP e113 d_AP_code_29 ?_
      obtain ⟨q114, e115, h⟩ := ob h
      refine k_gr C0 F_AP_157 hP e115 d_AP_code_30 ?_
      refine lv_astore (lv' := [(4, .ref (G.2.2 + q114)), (0, .ref (G.2.2 + x0)), (1, .int x1), (2, .int x2), (3, .int x3)]) hx hb d_AP_code_33 hl (by decide) rfl (fun ls hl => ?_)
      refine lv_iload_n hx hb d_AP_code_35 rfl (lv_at hl 4 rfl) ?_
      refine lv_iconst (v := 2) hx hb d_AP_code_36 ic_2 ?_
      refine lv_icmp_ge (tgt := 52) hx hb d_AP_code_37 (by decide) (fun c116 => ?_) (fun c116 => ?_)
      · rw [if_pos c116] at h
        refine lv_aload hx hb d_AP_code_52 (lv_at hl 0 rfl) ?_
        refine lv_iload_n hx hb d_AP_code_54 rfl (lv_at hl 3 rfl) ?_
        obtain ⟨_, e117, h⟩ := ob h
        obtain ⟨x120, M118, e119, h⟩ := ob2 h
        refine k_cV C0 L_AP_169 (As := [.int x2]) (c_Code_hasRange l G q114 x2 e119) ⟨rfl, rfl⟩ ⟨Nat.le_of_ble_eq_true rfl, Nat.le_of_ble_eq_true rfl⟩ hP hS (ck_of e117) ly_Code rfl hl.1 rfl (Nat.le_of_ble_eq_true rfl) d_AP_code_55 ⟨Nat.zero_le _, Nat.zero_le _⟩ (fun H locs hP hS => ?_)
        refine lv_if_ne (tgt := 71) hx hb d_AP_code_58 (by decide) (fun c121 => ?_) (fun c121 => ?_)
        · rw [if_neg c121] at h
          exact w_AP_code_71 C0 C1 x2 x3 q114 hP hS (lv_sub hl [3, 4, 0] rfl) h
        · rw [if_pos c121] at h
          exact w_AP_code_61 C0 C1 hP hS (lv_sub hl [] rfl) h
      · rw [if_neg c116] at h
        refine lv_aload hx hb d_AP_code_40 (lv_at hl 0 rfl) ?_
        refine lv_iload_n hx hb d_AP_code_42 rfl (lv_at hl 3 rfl) ?_
        obtain ⟨_, e122, h⟩ := ob h
        obtain ⟨x125, M123, e124, h⟩ := ob2 h
        refine k_cV C0 L_AP_168 (As := [.int x2]) (c_Code_has l G q114 x2 e124) ⟨rfl, rfl⟩ ⟨Nat.le_of_ble_eq_true rfl, Nat.le_of_ble_eq_true rfl⟩ hP hS (ck_of e122) ly_Code rfl hl.1 rfl (Nat.le_of_ble_eq_true rfl) d_AP_code_43 ⟨Nat.zero_le _, Nat.zero_le _⟩ (fun H locs hP hS => ?_)
        refine lv_if_ne (tgt := 71) hx hb d_AP_code_46 (by decide) (fun c126 => ?_) (fun c126 => ?_)
        · rw [if_neg c126] at h
          exact w_AP_code_71 C0 C1 x2 x3 q114 hP hS (lv_sub hl [3, 4, 0] rfl) h
        · rw [if_pos c126] at h
          refine lv_goto (tgt := 61) hx hb d_AP_code_49 (by decide) ?_
          exact w_AP_code_61 C0 C1 hP hS (lv_sub hl [] rfl) h
    · rw [if_neg c109] at h
      exact w_AP_code_14 C0 C1 hP hS (lv_sub hl [] rfl) h
/-! AllocationProfiler.site -/
theorem d_AP_site_0 : decode b_AP_site 0 = .ok (.aload_n 0, 1) := by decide +kernel
theorem d_AP_site_1 : decode b_AP_site 1 = .ok (.iload_n 1, 1) := by decide +kernel
theorem d_AP_site_2 : decode b_AP_site 2 = .ok (.invokevirtual 135, 3) := by decide +kernel
theorem d_AP_site_5 : decode b_AP_site 5 = .ok (.aload_n 0, 1) := by decide +kernel
theorem d_AP_site_6 : decode b_AP_site 6 = .ok (.getfield 25, 3) := by decide +kernel
theorem d_AP_site_9 : decode b_AP_site 9 = .ok (.iload_n 1, 1) := by decide +kernel
theorem d_AP_site_10 : decode b_AP_site 10 = .ok (.aaload, 1) := by decide +kernel
theorem d_AP_site_11 : decode b_AP_site 11 = .ok (.getfield 163, 3) := by decide +kernel
theorem d_AP_site_14 : decode b_AP_site 14 = .ok (.iload_n 2, 1) := by decide +kernel
theorem d_AP_site_15 : decode b_AP_site 15 = .ok (.invokevirtual 168, 3) := by decide +kernel
theorem d_AP_site_18 : decode b_AP_site 18 = .ok (.ifCond .ne 13, 3) := by decide +kernel
theorem d_AP_site_21 : decode b_AP_site 21 = .ok (.new 69, 3) := by decide +kernel
theorem d_AP_site_24 : decode b_AP_site 24 = .ok (.dup, 1) := by decide +kernel
theorem d_AP_site_25 : decode b_AP_site 25 = .ok (.ldc 180, 2) := by decide +kernel
theorem d_AP_site_27 : decode b_AP_site 27 = .ok (.invokespecial 73, 3) := by decide +kernel
theorem d_AP_site_30 : decode b_AP_site 30 = .ok (.athrow, 1) := by decide +kernel
theorem d_AP_site_31 : decode b_AP_site 31 = .ok (.aload_n 0, 1) := by decide +kernel
theorem d_AP_site_32 : decode b_AP_site 32 = .ok (.getfield 25, 3) := by decide +kernel
theorem d_AP_site_35 : decode b_AP_site 35 = .ok (.iload_n 1, 1) := by decide +kernel
theorem d_AP_site_36 : decode b_AP_site 36 = .ok (.aaload, 1) := by decide +kernel
theorem d_AP_site_37 : decode b_AP_site 37 = .ok (.getfield 182, 3) := by decide +kernel
theorem d_AP_site_40 : decode b_AP_site 40 = .ok (.iload_n 2, 1) := by decide +kernel
theorem d_AP_site_41 : decode b_AP_site 41 = .ok (.iaload, 1) := by decide +kernel
theorem d_AP_site_42 : decode b_AP_site 42 = .ok (.istore_n 3, 1) := by decide +kernel
theorem d_AP_site_43 : decode b_AP_site 43 = .ok (.iload_n 3, 1) := by decide +kernel
theorem d_AP_site_44 : decode b_AP_site 44 = .ok (.iconst (-1), 1) := by decide +kernel
theorem d_AP_site_45 : decode b_AP_site 45 = .ok (.if_icmp .ne 13, 3) := by decide +kernel
theorem d_AP_site_48 : decode b_AP_site 48 = .ok (.new 186, 3) := by decide +kernel
theorem d_AP_site_51 : decode b_AP_site 51 = .ok (.dup, 1) := by decide +kernel
theorem d_AP_site_52 : decode b_AP_site 52 = .ok (.ldc 188, 2) := by decide +kernel
theorem d_AP_site_54 : decode b_AP_site 54 = .ok (.invokespecial 190, 3) := by decide +kernel
theorem d_AP_site_57 : decode b_AP_site 57 = .ok (.athrow, 1) := by decide +kernel
theorem d_AP_site_58 : decode b_AP_site 58 = .ok (.iload_n 3, 1) := by decide +kernel
theorem d_AP_site_59 : decode b_AP_site 59 = .ok (.ireturn, 1) := by decide +kernel
def f_AP_site (x0 : Nat) (x1 : Int32) (x2 : Int32) (M : fm_M) : Option ((Int32 ⊕ String) × fm_M) :=
  (ck x0 9).bind fun _ =>
  xd (f_AP_needMethod x0 x1 M) fun _ M102 =>
  (gr x0 9 2).bind fun q104 =>
  (ar q104 x1).bind fun q106 =>
  (gr q106 6 0).bind fun q108 =>
  (ck q108 1).bind fun _ =>
  bd (f_Code_has q108 x2 M102) fun x113 M111 =>
  if x113 = 0 then
    some (.inr "java/lang/IllegalArgumentException", M111)
  else
    (gr x0 9 2).bind fun q115 =>
    (ar q115 x1).bind fun q117 =>
    (gr q117 6 2).bind fun q119 =>
    (ai q119 x2 M111).bind fun x121 =>
    if x121 = (-1) then
      some (.inr "java/util/NoSuchElementException", M111)
    else
      some (.inl x121, M111)
set_option maxHeartbeats 4000000 in
set_option maxRecDepth 100000 in
theorem c_AP_site (l : Launch) (hst : l.stackTraces = false) (G : fm_G) (x0 : Nat) (x1 : Int32) (x2 : Int32) {v : Int32 ⊕ String} {M M' : fm_M} (h : f_AP_site x0 x1 x2 M = some (v, M')) : kxMet l y_AP_site b_AP_site 4 (some .int) 7 111 G M [.ref (G.2.2 + x0), .int x1, .int x2] (xoI v) M' := by
  refine x_met hst (by decide) rfl (Nat.le_of_ble_eq_true rfl) (fun p e s m args below meth c C0 C1 hP ls hl => ?_)
  have hx := C0.1
  have hb := C0.2.1
  have hown := C0.2.2.2.2.1
  have hts := C0.2.2.2.2.2.1
  have hl : lv_has ls 4 [(0, .ref (G.2.2 + x0)), (1, .int x1), (2, .int x2)] := hl
  have hS : va_S (fm_A G.2.2) s.heap s.heap [] := va_S.rf
  unfold f_AP_site at h
  refine lv_aload_n hx hb d_AP_site_0 rfl (lv_at hl 0 rfl) ?_
  refine lv_iload_n hx hb d_AP_site_1 rfl (lv_at hl 1 rfl) ?_
  obtain ⟨_, e101, h⟩ := ob h
  rcases ob3 h with ⟨_, M102, e103, h⟩ | ⟨E9, e103, rfl⟩
  rotate_left
  · exact x_thrown (x_runV (o := .inr E9) C0 C1.2.1 L_AP_135 (As := [.int x1]) (c_AP_needMethod (v := .inr E9) l C1.1 G x0 x1 e103) ⟨Nat.le_of_ble_eq_true rfl, Nat.le_of_ble_eq_true rfl⟩ hP hS (ck_of e101) ly_AP rfl hl.1 rfl (Nat.le_of_ble_eq_true rfl) d_AP_site_2 ⟨Nat.le_refl 1, Nat.le_refl 6⟩) hS (fun H locs q9 ce hP hS h1 h2 h3 => x_out C0 C1 hP hS h1 h2 h3)
  refine x_backv (x_runV (o := .inl none) C0 C1.2.1 L_AP_135 (As := [.int x1]) (c_AP_needMethod (v := .inl ()) l C1.1 G x0 x1 e103) ⟨Nat.le_of_ble_eq_true rfl, Nat.le_of_ble_eq_true rfl⟩ hP hS (ck_of e101) ly_AP rfl hl.1 rfl (Nat.le_of_ble_eq_true rfl) d_AP_site_2 ⟨Nat.zero_le _, Nat.zero_le _⟩) hS (fun H locs hP hS => ?_)
  refine lv_aload_n hx hb d_AP_site_5 rfl (lv_at hl 0 rfl) ?_
  obtain ⟨q104, e105, h⟩ := ob h
  refine k_gr C0 F_AP_25 hP e105 d_AP_site_6 ?_
  refine lv_iload_n hx hb d_AP_site_9 rfl (lv_at hl 1 rfl) ?_
  obtain ⟨q106, e107, h⟩ := ob h
  refine k_ar C0 hP e107 d_AP_site_10 ?_
  obtain ⟨q108, e109, h⟩ := ob h
  refine k_gr C0 F_AP_163 hP e109 d_AP_site_11 ?_
  refine lv_iload_n hx hb d_AP_site_14 rfl (lv_at hl 2 rfl) ?_
  obtain ⟨_, e110, h⟩ := ob h
  obtain ⟨x113, M111, e112, h⟩ := ob2 h
  refine k_cV C0 L_AP_168 (As := [.int x2]) (c_Code_has l G q108 x2 e112) ⟨rfl, rfl⟩ ⟨Nat.le_of_ble_eq_true rfl, Nat.le_of_ble_eq_true rfl⟩ hP hS (ck_of e110) ly_Code rfl hl.1 rfl (Nat.le_of_ble_eq_true rfl) d_AP_site_15 ⟨Nat.zero_le _, Nat.zero_le _⟩ (fun H locs hP hS => ?_)
  refine lv_if_ne (tgt := 31) hx hb d_AP_site_18 (by decide) (fun c114 => ?_) (fun c114 => ?_)
  · rw [if_neg c114] at h
    refine lv_aload_n hx hb d_AP_site_31 rfl (lv_at hl 0 rfl) ?_
    obtain ⟨q115, e116, h⟩ := ob h
    refine k_gr C0 F_AP_25 hP e116 d_AP_site_32 ?_
    refine lv_iload_n hx hb d_AP_site_35 rfl (lv_at hl 1 rfl) ?_
    obtain ⟨q117, e118, h⟩ := ob h
    refine k_ar C0 hP e118 d_AP_site_36 ?_
    obtain ⟨q119, e120, h⟩ := ob h
    refine k_gr C0 F_AP_182 hP e120 d_AP_site_37 ?_
    refine lv_iload_n hx hb d_AP_site_40 rfl (lv_at hl 2 rfl) ?_
    obtain ⟨x121, e122, h⟩ := ob h
    refine k_ai C0 hP e122 d_AP_site_41 ?_
    refine lv_istore_n (lv' := [(3, .int x121), (0, .ref (G.2.2 + x0)), (1, .int x1), (2, .int x2)]) hx hb d_AP_site_42 rfl hl (by decide) rfl (fun ls hl => ?_)
    refine lv_iload_n hx hb d_AP_site_43 rfl (lv_at hl 0 rfl) ?_
    refine lv_iconst (v := (-1)) hx hb d_AP_site_44 ic_m1 ?_
    refine lv_icmp_ne (tgt := 58) hx hb d_AP_site_45 (by decide) (fun c123 => ?_) (fun c123 => ?_)
    · rw [if_neg c123] at h
      refine lv_iload_n hx hb d_AP_site_58 rfl (lv_at hl 0 rfl) ?_
      cases h
      exact x_ret (r_iret C0 hP hS d_AP_site_59)
    · rw [if_pos c123] at h
      cases h
      exact x_throw C0 C1 T_NoSuchElementException (text := "no site there") (by decide) hP hS hl.1 d_AP_site_48 d_AP_site_51 d_AP_site_52 d_AP_site_54 d_AP_site_57 (Nat.le_of_ble_eq_true rfl) (Nat.le_of_ble_eq_true rfl) (Nat.le_refl 1) (Nat.le_refl 6)
  · rw [if_pos c114] at h
    cases h
    exact x_throw C0 C1 T_IllegalArgumentException (text := "no such instruction") (by decide) hP hS hl.1 d_AP_site_21 d_AP_site_24 d_AP_site_25 d_AP_site_27 d_AP_site_30 (Nat.le_of_ble_eq_true rfl) (Nat.le_of_ble_eq_true rfl) (Nat.le_refl 1) (Nat.le_refl 6)
/-! AllocationProfiler.needThread -/
theorem d_AP_needThread_0 : decode b_AP_needThread 0 = .ok (.iload_n 0, 1) := by decide +kernel
theorem d_AP_needThread_1 : decode b_AP_needThread 1 = .ok (.ifCond .lt 8, 3) := by decide +kernel
theorem d_AP_needThread_4 : decode b_AP_needThread 4 = .ok (.iload_n 0, 1) := by decide +kernel
theorem d_AP_needThread_5 : decode b_AP_needThread 5 = .ok (.iconst 3, 1) := by decide +kernel
theorem d_AP_needThread_6 : decode b_AP_needThread 6 = .ok (.if_icmp .lt 14, 3) := by decide +kernel
theorem d_AP_needThread_9 : decode b_AP_needThread 9 = .ok (.new 69, 3) := by decide +kernel
theorem d_AP_needThread_12 : decode b_AP_needThread 12 = .ok (.dup, 1) := by decide +kernel
theorem d_AP_needThread_13 : decode b_AP_needThread 13 = .ok (.ldc_w 279, 3) := by decide +kernel
theorem d_AP_needThread_16 : decode b_AP_needThread 16 = .ok (.invokespecial 73, 3) := by decide +kernel
theorem d_AP_needThread_19 : decode b_AP_needThread 19 = .ok (.athrow, 1) := by decide +kernel
theorem d_AP_needThread_20 : decode b_AP_needThread 20 = .ok (.return_, 1) := by decide +kernel
def j_AP_needThread_9  (M : fm_M) : Option ((Unit ⊕ String) × fm_M) :=
  some (.inr "java/lang/IllegalArgumentException", M)
def f_AP_needThread (x0 : Int32) (M : fm_M) : Option ((Unit ⊕ String) × fm_M) :=
  if x0 < 0 then
    j_AP_needThread_9 M
  else
    if x0 < 3 then
      some (.inl (), M)
    else
      j_AP_needThread_9 M
set_option maxHeartbeats 4000000 in
set_option maxRecDepth 100000 in
theorem w_AP_needThread_9 {p : Program} {l : Launch} {e : Env} {s : State} {m : MethodId} {args : Array Value} {below : List Frame} {meth : Method} {c : Code} {G : fm_G} (C0 : fm_C p s m args meth c G (.code y_AP_needThread b_AP_needThread 1 none) "AllocationProfiler" b_AP_needThread 1 none) (C1 : fx_C l s c G) {v : Unit ⊕ String} {M' : fm_M}  {M : fm_M} {H : Heap} {locs : List Loc} (hP : kP G M H) (hS : kS G s H locs) {ls : Array Slot} (hl : lv_has ls 1 []) (h : j_AP_needThread_9  M = some (v, M')) : W p l e (fx_rm 6 90 (xoV v)) s m args below meth c H locs 0 0 (vx_MQ below (fx_Q G (xoV v) M') (fx_X G (xoV v) M') args s (fx_c (xoV v)) (fx_s (xoV v)) (fm_A G.2.2)) (F0 m 9 ls []) := by
  have hx := C0.1
  have hb := C0.2.1
  have hown := C0.2.2.2.2.1
  have hts := C0.2.2.2.2.2.1
  unfold j_AP_needThread_9 at h
  cases h
  exact x_throwW C0 C1 T_IllegalArgumentException (text := "no such thread") (by decide) hP hS hl.1 d_AP_needThread_9 d_AP_needThread_12 d_AP_needThread_13 d_AP_needThread_16 d_AP_needThread_19 (Nat.le_of_ble_eq_true rfl) (Nat.le_of_ble_eq_true rfl) (Nat.le_refl 1) (Nat.le_refl 6)
set_option maxHeartbeats 4000000 in
set_option maxRecDepth 100000 in
theorem c_AP_needThread (l : Launch) (hst : l.stackTraces = false) (G : fm_G) (x0 : Int32) {v : Unit ⊕ String} {M M' : fm_M} (h : f_AP_needThread x0 M = some (v, M')) : kxMet l y_AP_needThread b_AP_needThread 1 none 6 90 G M [.int x0] (xoV v) M' := by
  refine x_met hst (by decide) rfl (Nat.le_of_ble_eq_true rfl) (fun p e s m args below meth c C0 C1 hP ls hl => ?_)
  have hx := C0.1
  have hb := C0.2.1
  have hown := C0.2.2.2.2.1
  have hts := C0.2.2.2.2.2.1
  have hl : lv_has ls 1 [(0, .int x0)] := hl
  have hS : va_S (fm_A G.2.2) s.heap s.heap [] := va_S.rf
  unfold f_AP_needThread at h
  refine lv_iload_n hx hb d_AP_needThread_0 rfl (lv_at hl 0 rfl) ?_
  refine lv_if_lt (tgt := 9) hx hb d_AP_needThread_1 (by decide) (fun c101 => ?_) (fun c101 => ?_)
  · rw [if_pos c101] at h
    exact w_AP_needThread_9 C0 C1 hP hS (lv_sub hl [] rfl) h
  · rw [if_neg c101] at h
    refine lv_iload_n hx hb d_AP_needThread_4 rfl (lv_at hl 0 rfl) ?_
    refine lv_iconst (v := 3) hx hb d_AP_needThread_5 ic_3 ?_
    refine lv_icmp_lt (tgt := 20) hx hb d_AP_needThread_6 (by decide) (fun c102 => ?_) (fun c102 => ?_)
    · rw [if_pos c102] at h
      cases h
      exact x_ret (r_vret C0 hP hS d_AP_needThread_20)
    · rw [if_neg c102] at h
      exact w_AP_needThread_9 C0 C1 hP hS (lv_sub hl [] rfl) h
/-! AllocationProfiler.start -/
theorem d_AP_start_0 : decode b_AP_start 0 = .ok (.iload_n 1, 1) := by decide +kernel
theorem d_AP_start_1 : decode b_AP_start 1 = .ok (.invokestatic 191, 3) := by decide +kernel
theorem d_AP_start_4 : decode b_AP_start 4 = .ok (.aload_n 0, 1) := by decide +kernel
theorem d_AP_start_5 : decode b_AP_start 5 = .ok (.iload_n 2, 1) := by decide +kernel
theorem d_AP_start_6 : decode b_AP_start 6 = .ok (.invokevirtual 135, 3) := by decide +kernel
theorem d_AP_start_9 : decode b_AP_start 9 = .ok (.aload_n 0, 1) := by decide +kernel
theorem d_AP_start_10 : decode b_AP_start 10 = .ok (.getfield 59, 3) := by decide +kernel
theorem d_AP_start_13 : decode b_AP_start 13 = .ok (.ifCond .eq 18, 3) := by decide +kernel
theorem d_AP_start_16 : decode b_AP_start 16 = .ok (.aload_n 0, 1) := by decide +kernel
theorem d_AP_start_17 : decode b_AP_start 17 = .ok (.getfield 12, 3) := by decide +kernel
theorem d_AP_start_20 : decode b_AP_start 20 = .ok (.getfield 194, 3) := by decide +kernel
theorem d_AP_start_23 : decode b_AP_start 23 = .ok (.iload_n 1, 1) := by decide +kernel
theorem d_AP_start_24 : decode b_AP_start 24 = .ok (.aaload, 1) := by decide +kernel
theorem d_AP_start_25 : decode b_AP_start 25 = .ok (.invokevirtual 198, 3) := by decide +kernel
theorem d_AP_start_28 : decode b_AP_start 28 = .ok (.ifCond .eq 13, 3) := by decide +kernel
theorem d_AP_start_31 : decode b_AP_start 31 = .ok (.new 85, 3) := by decide +kernel
theorem d_AP_start_34 : decode b_AP_start 34 = .ok (.dup, 1) := by decide +kernel
theorem d_AP_start_35 : decode b_AP_start 35 = .ok (.ldc 203, 2) := by decide +kernel
theorem d_AP_start_37 : decode b_AP_start 37 = .ok (.invokespecial 89, 3) := by decide +kernel
theorem d_AP_start_40 : decode b_AP_start 40 = .ok (.athrow, 1) := by decide +kernel
theorem d_AP_start_41 : decode b_AP_start 41 = .ok (.aload_n 0, 1) := by decide +kernel
theorem d_AP_start_42 : decode b_AP_start 42 = .ok (.getfield 12, 3) := by decide +kernel
theorem d_AP_start_45 : decode b_AP_start 45 = .ok (.getfield 194, 3) := by decide +kernel
theorem d_AP_start_48 : decode b_AP_start 48 = .ok (.iload_n 1, 1) := by decide +kernel
theorem d_AP_start_49 : decode b_AP_start 49 = .ok (.aaload, 1) := by decide +kernel
theorem d_AP_start_50 : decode b_AP_start 50 = .ok (.iload_n 2, 1) := by decide +kernel
theorem d_AP_start_51 : decode b_AP_start 51 = .ok (.iload_n 3, 1) := by decide +kernel
theorem d_AP_start_52 : decode b_AP_start 52 = .ok (.invokevirtual 205, 3) := by decide +kernel
theorem d_AP_start_55 : decode b_AP_start 55 = .ok (.return_, 1) := by decide +kernel
def j_AP_start_31  (M : fm_M) : Option ((Unit ⊕ String) × fm_M) :=
  some (.inr "java/lang/IllegalStateException", M)
def f_AP_start (x0 : Nat) (x1 : Int32) (x2 : Int32) (x3 : Int32) (M : fm_M) : Option ((Unit ⊕ String) × fm_M) :=
  xd (f_AP_needThread x1 M) fun _ M101 =>
  (ck x0 9).bind fun _ =>
  xd (f_AP_needMethod x0 x2 M101) fun _ M104 =>
  (gi x0 9 9 M104).bind fun x106 =>
  if x106 = 0 then
    j_AP_start_31 M104
  else
    (gr x0 9 0).bind fun q109 =>
    (gr q109 5 4).bind fun q111 =>
    (ar q111 x1).bind fun q113 =>
    (ck q113 7).bind fun _ =>
    bd (f_Strand_isRunning q113 M104) fun x118 M116 =>
    if x118 = 0 then
      (gr x0 9 0).bind fun q120 =>
      (gr q120 5 4).bind fun q122 =>
      (ar q122 x1).bind fun q124 =>
      (ck q124 7).bind fun _ =>
      (f_Strand_enter q124 x2 x3 M116).bind fun M127 =>
      some (.inl (), M127)
    else
      j_AP_start_31 M116
set_option maxHeartbeats 4000000 in
set_option maxRecDepth 100000 in
theorem w_AP_start_31 {p : Program} {l : Launch} {e : Env} {s : State} {m : MethodId} {args : Array Value} {below : List Frame} {meth : Method} {c : Code} {G : fm_G} (C0 : fm_C p s m args meth c G (.code y_AP_start b_AP_start 4 none) "AllocationProfiler" b_AP_start 4 none) (C1 : fx_C l s c G) {v : Unit ⊕ String} {M' : fm_M}  {M : fm_M} {H : Heap} {locs : List Loc} (hP : kP G M H) (hS : kS G s H locs) {ls : Array Slot} (hl : lv_has ls 4 []) (h : j_AP_start_31  M = some (v, M')) : W p l e (fx_rm 7 111 (xoV v)) s m args below meth c H locs 0 0 (vx_MQ below (fx_Q G (xoV v) M') (fx_X G (xoV v) M') args s (fx_c (xoV v)) (fx_s (xoV v)) (fm_A G.2.2)) (F0 m 31 ls []) := by
  have hx := C0.1
  have hb := C0.2.1
  have hown := C0.2.2.2.2.1
  have hts := C0.2.2.2.2.2.1
  unfold j_AP_start_31 at h
  cases h
  exact x_throw C0 C1 T_IllegalStateException (text := "it cannot start now") (by decide) hP hS hl.1 d_AP_start_31 d_AP_start_34 d_AP_start_35 d_AP_start_37 d_AP_start_40 (Nat.le_of_ble_eq_true rfl) (Nat.le_of_ble_eq_true rfl) (Nat.le_refl 1) (Nat.le_refl 6)
set_option maxHeartbeats 4000000 in
set_option maxRecDepth 100000 in
theorem c_AP_start (l : Launch) (hst : l.stackTraces = false) (G : fm_G) (x0 : Nat) (x1 : Int32) (x2 : Int32) (x3 : Int32) {v : Unit ⊕ String} {M M' : fm_M} (h : f_AP_start x0 x1 x2 x3 M = some (v, M')) : kxMet l y_AP_start b_AP_start 4 none 7 111 G M [.ref (G.2.2 + x0), .int x1, .int x2, .int x3] (xoV v) M' := by
  refine x_met hst (by decide) rfl (Nat.le_of_ble_eq_true rfl) (fun p e s m args below meth c C0 C1 hP ls hl => ?_)
  have hx := C0.1
  have hb := C0.2.1
  have hown := C0.2.2.2.2.1
  have hts := C0.2.2.2.2.2.1
  have hl : lv_has ls 4 [(0, .ref (G.2.2 + x0)), (1, .int x1), (2, .int x2), (3, .int x3)] := hl
  have hS : va_S (fm_A G.2.2) s.heap s.heap [] := va_S.rf
  unfold f_AP_start at h
  refine lv_iload_n hx hb d_AP_start_0 rfl (lv_at hl 1 rfl) ?_
  rcases ob3 h with ⟨_, M101, e102, h⟩ | ⟨E9, e102, rfl⟩
  rotate_left
  · exact x_thrown (x_runS (o := .inr E9) C0 C1.2.1 L_AP_191 (As := [.int x1]) (c_AP_needThread (v := .inr E9) l C1.1 G x1 e102) ⟨Nat.le_of_ble_eq_true rfl, Nat.le_of_ble_eq_true rfl⟩ hP hS rfl hl.1 rfl (Nat.le_of_ble_eq_true rfl) d_AP_start_1 ⟨Nat.le_refl 1, Nat.le_refl 6⟩) hS (fun H locs q9 ce hP hS h1 h2 h3 => x_out C0 C1 hP hS h1 h2 h3)
  refine x_backv (x_runS (o := .inl none) C0 C1.2.1 L_AP_191 (As := [.int x1]) (c_AP_needThread (v := .inl ()) l C1.1 G x1 e102) ⟨Nat.le_of_ble_eq_true rfl, Nat.le_of_ble_eq_true rfl⟩ hP hS rfl hl.1 rfl (Nat.le_of_ble_eq_true rfl) d_AP_start_1 ⟨Nat.zero_le _, Nat.zero_le _⟩) hS (fun H locs hP hS => ?_)
  refine lv_aload_n hx hb d_AP_start_4 rfl (lv_at hl 0 rfl) ?_
  refine lv_iload_n hx hb d_AP_start_5 rfl (lv_at hl 2 rfl) ?_
  obtain ⟨_, e103, h⟩ := ob h
  rcases ob3 h with ⟨_, M104, e105, h⟩ | ⟨E9, e105, rfl⟩
  rotate_left
  · exact x_thrown (x_runV (o := .inr E9) C0 C1.2.1 L_AP_135 (As := [.int x2]) (c_AP_needMethod (v := .inr E9) l C1.1 G x0 x2 e105) ⟨Nat.le_of_ble_eq_true rfl, Nat.le_of_ble_eq_true rfl⟩ hP hS (ck_of e103) ly_AP rfl hl.1 rfl (Nat.le_of_ble_eq_true rfl) d_AP_start_6 ⟨Nat.le_refl 1, Nat.le_refl 6⟩) hS (fun H locs q9 ce hP hS h1 h2 h3 => x_out C0 C1 hP hS h1 h2 h3)
  refine x_backv (x_runV (o := .inl none) C0 C1.2.1 L_AP_135 (As := [.int x2]) (c_AP_needMethod (v := .inl ()) l C1.1 G x0 x2 e105) ⟨Nat.le_of_ble_eq_true rfl, Nat.le_of_ble_eq_true rfl⟩ hP hS (ck_of e103) ly_AP rfl hl.1 rfl (Nat.le_of_ble_eq_true rfl) d_AP_start_6 ⟨Nat.zero_le _, Nat.zero_le _⟩) hS (fun H locs hP hS => ?_)
  refine lv_aload_n hx hb d_AP_start_9 rfl (lv_at hl 0 rfl) ?_
  obtain ⟨x106, e107, h⟩ := ob h
  refine k_gi C0 F_AP_59 ik_9_9 hP e107 d_AP_start_10 ?_
  refine lv_if_eq (tgt := 31) hx hb d_AP_start_13 (by decide) (fun c108 => ?_) (fun c108 => ?_)
  · rw [if_pos c108] at h
    exact w_AP_start_31 C0 C1 hP hS (lv_sub hl [] rfl) h
  · rw [if_neg c108] at h
    refine lv_aload_n hx hb d_AP_start_16 rfl (lv_at hl 0 rfl) ?_
    obtain ⟨q109, e110, h⟩ := ob h
    refine k_gr C0 F_AP_12 hP e110 d_AP_start_17 ?_
    obtain ⟨q111, e112, h⟩ := ob h
    refine k_gr C0 F_AP_194 hP e112 d_AP_start_20 ?_
    refine lv_iload_n hx hb d_AP_start_23 rfl (lv_at hl 1 rfl) ?_
    obtain ⟨q113, e114, h⟩ := ob h
    refine k_ar C0 hP e114 d_AP_start_24 ?_
    obtain ⟨_, e115, h⟩ := ob h
    obtain ⟨x118, M116, e117, h⟩ := ob2 h
    refine k_cV C0 L_AP_198 (As := []) (c_Strand_isRunning l G q113 e117) ⟨rfl, rfl⟩ ⟨Nat.le_of_ble_eq_true rfl, Nat.le_of_ble_eq_true rfl⟩ hP hS (ck_of e115) ly_Strand rfl hl.1 rfl (Nat.le_of_ble_eq_true rfl) d_AP_start_25 ⟨Nat.zero_le _, Nat.zero_le _⟩ (fun H locs hP hS => ?_)
    refine lv_if_eq (tgt := 41) hx hb d_AP_start_28 (by decide) (fun c119 => ?_) (fun c119 => ?_)
    · rw [if_pos c119] at h
      refine lv_aload_n hx hb d_AP_start_41 rfl (lv_at hl 0 rfl) ?_
      obtain ⟨q120, e121, h⟩ := ob h
      refine k_gr C0 F_AP_12 hP e121 d_AP_start_42 ?_
      obtain ⟨q122, e123, h⟩ := ob h
      refine k_gr C0 F_AP_194 hP e123 d_AP_start_45 ?_
      refine lv_iload_n hx hb d_AP_start_48 rfl (lv_at hl 1 rfl) ?_
      obtain ⟨q124, e125, h⟩ := ob h
      refine k_ar C0 hP e125 d_AP_start_49 ?_
      refine lv_iload_n hx hb d_AP_start_50 rfl (lv_at hl 2 rfl) ?_
      refine lv_iload_n hx hb d_AP_start_51 rfl (lv_at hl 3 rfl) ?_
      obtain ⟨_, e126, h⟩ := ob h
      obtain ⟨M127, e128, h⟩ := ob h
      refine k_cVv C0 L_AP_205 (As := [.int x2, .int x3]) (c_Strand_enter l G q124 x2 x3 e128) ⟨rfl, rfl⟩ ⟨Nat.le_of_ble_eq_true rfl, Nat.le_of_ble_eq_true rfl⟩ hP hS (ck_of e126) ly_Strand rfl hl.1 rfl (Nat.le_of_ble_eq_true rfl) d_AP_start_52 ⟨Nat.zero_le _, Nat.zero_le _⟩ (fun H locs hP hS => ?_)
      cases h
      exact x_ret (r_vret C0 hP hS d_AP_start_55)
    · rw [if_neg c119] at h
      exact w_AP_start_31 C0 C1 hP hS (lv_sub hl [] rfl) h
/-! AllocationProfiler.run -/
theorem d_AP_run_0 : decode b_AP_run 0 = .ok (.iload_n 1, 1) := by decide +kernel
theorem d_AP_run_1 : decode b_AP_run 1 = .ok (.iconst 1, 1) := by decide +kernel
theorem d_AP_run_2 : decode b_AP_run 2 = .ok (.if_icmp .lt 10, 3) := by decide +kernel
theorem d_AP_run_5 : decode b_AP_run 5 = .ok (.iload_n 1, 1) := by decide +kernel
theorem d_AP_run_6 : decode b_AP_run 6 = .ok (.sipush 200, 3) := by decide +kernel
theorem d_AP_run_9 : decode b_AP_run 9 = .ok (.if_icmp .le 13, 3) := by decide +kernel
theorem d_AP_run_12 : decode b_AP_run 12 = .ok (.new 69, 3) := by decide +kernel
theorem d_AP_run_15 : decode b_AP_run 15 = .ok (.dup, 1) := by decide +kernel
theorem d_AP_run_16 : decode b_AP_run 16 = .ok (.ldc 208, 2) := by decide +kernel
theorem d_AP_run_18 : decode b_AP_run 18 = .ok (.invokespecial 73, 3) := by decide +kernel
theorem d_AP_run_21 : decode b_AP_run 21 = .ok (.athrow, 1) := by decide +kernel
theorem d_AP_run_22 : decode b_AP_run 22 = .ok (.iconst 0, 1) := by decide +kernel
theorem d_AP_run_23 : decode b_AP_run 23 = .ok (.istore_n 2, 1) := by decide +kernel
theorem d_AP_run_24 : decode b_AP_run 24 = .ok (.iload_n 2, 1) := by decide +kernel
theorem d_AP_run_25 : decode b_AP_run 25 = .ok (.iload_n 1, 1) := by decide +kernel
theorem d_AP_run_26 : decode b_AP_run 26 = .ok (.if_icmp .ge 19, 3) := by decide +kernel
theorem d_AP_run_29 : decode b_AP_run 29 = .ok (.aload_n 0, 1) := by decide +kernel
theorem d_AP_run_30 : decode b_AP_run 30 = .ok (.getfield 12, 3) := by decide +kernel
theorem d_AP_run_33 : decode b_AP_run 33 = .ok (.invokevirtual 210, 3) := by decide +kernel
theorem d_AP_run_36 : decode b_AP_run 36 = .ok (.ifCond .eq 9, 3) := by decide +kernel
theorem d_AP_run_39 : decode b_AP_run 39 = .ok (.iinc 2 1, 3) := by decide +kernel
theorem d_AP_run_42 : decode b_AP_run 42 = .ok (.goto (-18), 3) := by decide +kernel
theorem d_AP_run_45 : decode b_AP_run 45 = .ok (.iload_n 2, 1) := by decide +kernel
theorem d_AP_run_46 : decode b_AP_run 46 = .ok (.ireturn, 1) := by decide +kernel
def j_AP_run_12  (M : fm_M) : Option ((Int32 ⊕ String) × fm_M) :=
  some (.inr "java/lang/IllegalArgumentException", M)
def h_AP_run_24 : Nat → Nat → Int32 → Int32 → fm_M → Option ((Int32 ⊕ String) × fm_M)
  | 0, _, _, _, _ => none
  | n + 1, x0, x1, x2, M =>
    if x1 ≤ x2 then
      some (.inl x2, M)
    else
      (gr x0 9 0).bind fun q102 =>
      (ck q102 5).bind fun _ =>
      bd (f_Machine_step q102 M) fun x107 M105 =>
      if x107 = 0 then
        some (.inl x2, M105)
      else
        h_AP_run_24 n x0 x1 (x2 + 1) M105
def f_AP_run (x0 : Nat) (x1 : Int32) (M : fm_M) : Option ((Int32 ⊕ String) × fm_M) :=
  if x1 < 1 then
    j_AP_run_12 M
  else
    if x1 ≤ 200 then
      h_AP_run_24 100000 x0 x1 0 M
    else
      j_AP_run_12 M
set_option maxHeartbeats 4000000 in
set_option maxRecDepth 100000 in
theorem w_AP_run_12 {p : Program} {l : Launch} {e : Env} {s : State} {m : MethodId} {args : Array Value} {below : List Frame} {meth : Method} {c : Code} {G : fm_G} (C0 : fm_C p s m args meth c G (.code y_AP_run b_AP_run 3 (some .int)) "AllocationProfiler" b_AP_run 3 (some .int)) (C1 : fx_C l s c G) {v : Int32 ⊕ String} {M' : fm_M}  {M : fm_M} {H : Heap} {locs : List Loc} (hP : kP G M H) (hS : kS G s H locs) {ls : Array Slot} (hl : lv_has ls 3 []) (h : j_AP_run_12  M = some (v, M')) : W p l e (fx_rm 6 144 (xoI v)) s m args below meth c H locs 0 0 (vx_MQ below (fx_Q G (xoI v) M') (fx_X G (xoI v) M') args s (fx_c (xoI v)) (fx_s (xoI v)) (fm_A G.2.2)) (F0 m 12 ls []) := by
  have hx := C0.1
  have hb := C0.2.1
  have hown := C0.2.2.2.2.1
  have hts := C0.2.2.2.2.2.1
  unfold j_AP_run_12 at h
  cases h
  exact x_throw C0 C1 T_IllegalArgumentException (text := "1 to 200 steps") (by decide) hP hS hl.1 d_AP_run_12 d_AP_run_15 d_AP_run_16 d_AP_run_18 d_AP_run_21 (Nat.le_of_ble_eq_true rfl) (Nat.le_of_ble_eq_true rfl) (Nat.le_refl 1) (Nat.le_refl 6)
set_option maxHeartbeats 4000000 in
set_option maxRecDepth 100000 in
theorem w_AP_run_24 {p : Program} {l : Launch} {e : Env} {s : State} {m : MethodId} {args : Array Value} {below : List Frame} {meth : Method} {c : Code} {G : fm_G} (C0 : fm_C p s m args meth c G (.code y_AP_run b_AP_run 3 (some .int)) "AllocationProfiler" b_AP_run 3 (some .int)) (C1 : fx_C l s c G) {v : Int32 ⊕ String} {M' : fm_M} : ∀ (n : Nat) (x0 : Nat) (x1 : Int32) (x2 : Int32) {M : fm_M} {H : Heap} {locs : List Loc}, kP G M H → kS G s H locs → ∀ {ls : Array Slot}, lv_has ls 3 [(0, .ref (G.2.2 + x0)), (1, .int x1), (2, .int x2)] → h_AP_run_24 n x0 x1 x2 M = some (v, M') → W p l e (fx_rm 6 144 (xoI v)) s m args below meth c H locs 0 0 (vx_MQ below (fx_Q G (xoI v) M') (fx_X G (xoI v) M') args s (fx_c (xoI v)) (fx_s (xoI v)) (fm_A G.2.2)) (F0 m 24 ls []) := by
  have hx := C0.1
  have hb := C0.2.1
  have hown := C0.2.2.2.2.1
  have hts := C0.2.2.2.2.2.1
  intro n
  induction n with
  | zero =>
    intro x0 x1 x2 M H locs hP hS ls hl h
    exact nomatch h
  | succ n ih =>
    intro x0 x1 x2 M H locs hP hS ls hl h
    have h : (if x1 ≤ x2 then
        some (.inl x2, M)
      else
        (gr x0 9 0).bind fun q102 =>
        (ck q102 5).bind fun _ =>
        bd (f_Machine_step q102 M) fun x107 M105 =>
        if x107 = 0 then
          some (.inl x2, M105)
        else
          h_AP_run_24 n x0 x1 (x2 + 1) M105) = some (v, M') := h
    refine lv_iload_n hx hb d_AP_run_24 rfl (lv_at hl 2 rfl) ?_
    refine lv_iload_n hx hb d_AP_run_25 rfl (lv_at hl 1 rfl) ?_
    refine lv_icmp_ge (tgt := 45) hx hb d_AP_run_26 (by decide) (fun c101 => ?_) (fun c101 => ?_)
    · rw [if_pos c101] at h
      refine lv_iload_n hx hb d_AP_run_45 rfl (lv_at hl 2 rfl) ?_
      cases h
      exact x_ret (r_iret C0 hP hS d_AP_run_46)
    · rw [if_neg c101] at h
      refine lv_aload_n hx hb d_AP_run_29 rfl (lv_at hl 0 rfl) ?_
      obtain ⟨q102, e103, h⟩ := ob h
      refine k_gr C0 F_AP_12 hP e103 d_AP_run_30 ?_
      obtain ⟨_, e104, h⟩ := ob h
      obtain ⟨x107, M105, e106, h⟩ := ob2 h
      refine k_cV C0 L_AP_210 (As := []) (c_Machine_step l G q102 e106) ⟨rfl, rfl⟩ ⟨Nat.le_of_ble_eq_true rfl, Nat.le_of_ble_eq_true rfl⟩ hP hS (ck_of e104) ly_Machine rfl hl.1 rfl (Nat.le_of_ble_eq_true rfl) d_AP_run_33 ⟨Nat.zero_le _, Nat.zero_le _⟩ (fun H locs hP hS => ?_)
      refine lv_if_eq (tgt := 45) hx hb d_AP_run_36 (by decide) (fun c108 => ?_) (fun c108 => ?_)
      · rw [if_pos c108] at h
        refine lv_iload_n hx hb d_AP_run_45 rfl (lv_at hl 2 rfl) ?_
        cases h
        exact x_ret (r_iret C0 hP hS d_AP_run_46)
      · rw [if_neg c108] at h
        refine lv_iinc (v := (x2 + 1)) (lv' := [(2, .int (x2 + 1)), (0, .ref (G.2.2 + x0)), (1, .int x1)]) hx hb d_AP_run_39 hl (k := 2) rfl (congrArg (fun z => x2 + z) ic_1) (by decide) rfl (fun ls hl => ?_)
        refine lv_goto (tgt := 24) hx hb d_AP_run_42 (by decide) ?_
        exact ih x0 x1 (x2 + 1) hP hS (lv_sub hl [1, 2, 0] rfl) h
set_option maxHeartbeats 4000000 in
set_option maxRecDepth 100000 in
theorem c_AP_run (l : Launch) (hst : l.stackTraces = false) (G : fm_G) (x0 : Nat) (x1 : Int32) {v : Int32 ⊕ String} {M M' : fm_M} (h : f_AP_run x0 x1 M = some (v, M')) : kxMet l y_AP_run b_AP_run 3 (some .int) 6 144 G M [.ref (G.2.2 + x0), .int x1] (xoI v) M' := by
  refine x_met hst (by decide) rfl (Nat.le_of_ble_eq_true rfl) (fun p e s m args below meth c C0 C1 hP ls hl => ?_)
  have hx := C0.1
  have hb := C0.2.1
  have hown := C0.2.2.2.2.1
  have hts := C0.2.2.2.2.2.1
  have hl : lv_has ls 3 [(0, .ref (G.2.2 + x0)), (1, .int x1)] := hl
  have hS : va_S (fm_A G.2.2) s.heap s.heap [] := va_S.rf
  unfold f_AP_run at h
  refine lv_iload_n hx hb d_AP_run_0 rfl (lv_at hl 1 rfl) ?_
  refine lv_iconst (v := 1) hx hb d_AP_run_1 ic_1 ?_
  refine lv_icmp_lt (tgt := 12) hx hb d_AP_run_2 (by decide) (fun c109 => ?_) (fun c109 => ?_)
  · rw [if_pos c109] at h
    exact w_AP_run_12 C0 C1 hP hS (lv_sub hl [] rfl) h
  · rw [if_neg c109] at h
    refine lv_iload_n hx hb d_AP_run_5 rfl (lv_at hl 1 rfl) ?_
    refine lv_sipush (v := 200) hx hb d_AP_run_6 sp_200 ?_
    refine lv_icmp_le (tgt := 22) hx hb d_AP_run_9 (by decide) (fun c110 => ?_) (fun c110 => ?_)
    · rw [if_pos c110] at h
      refine lv_iconst (v := 0) hx hb d_AP_run_22 ic_0 ?_
      refine lv_istore_n (lv' := [(2, .int 0), (0, .ref (G.2.2 + x0)), (1, .int x1)]) hx hb d_AP_run_23 rfl hl (by decide) rfl (fun ls hl => ?_)
      exact w_AP_run_24 C0 C1 100000 x0 x1 0 hP hS (lv_sub hl [1, 2, 0] rfl) h
    · rw [if_neg c110] at h
      exact w_AP_run_12 C0 C1 hP hS (lv_sub hl [] rfl) h
/-! AllocationProfiler.state -/
theorem d_AP_state_0 : decode b_AP_state 0 = .ok (.iload_n 1, 1) := by decide +kernel
theorem d_AP_state_1 : decode b_AP_state 1 = .ok (.invokestatic 191, 3) := by decide +kernel
theorem d_AP_state_4 : decode b_AP_state 4 = .ok (.aload_n 0, 1) := by decide +kernel
theorem d_AP_state_5 : decode b_AP_state 5 = .ok (.getfield 12, 3) := by decide +kernel
theorem d_AP_state_8 : decode b_AP_state 8 = .ok (.getfield 194, 3) := by decide +kernel
theorem d_AP_state_11 : decode b_AP_state 11 = .ok (.iload_n 1, 1) := by decide +kernel
theorem d_AP_state_12 : decode b_AP_state 12 = .ok (.aaload, 1) := by decide +kernel
theorem d_AP_state_13 : decode b_AP_state 13 = .ok (.invokevirtual 213, 3) := by decide +kernel
theorem d_AP_state_16 : decode b_AP_state 16 = .ok (.ireturn, 1) := by decide +kernel
def f_AP_state (x0 : Nat) (x1 : Int32) (M : fm_M) : Option ((Int32 ⊕ String) × fm_M) :=
  xd (f_AP_needThread x1 M) fun _ M101 =>
  (gr x0 9 0).bind fun q103 =>
  (gr q103 5 4).bind fun q105 =>
  (ar q105 x1).bind fun q107 =>
  (ck q107 7).bind fun _ =>
  bd (f_Strand_condition q107 M101) fun x112 M110 =>
  some (.inl x112, M110)
set_option maxHeartbeats 4000000 in
set_option maxRecDepth 100000 in
theorem c_AP_state (l : Launch) (hst : l.stackTraces = false) (G : fm_G) (x0 : Nat) (x1 : Int32) {v : Int32 ⊕ String} {M M' : fm_M} (h : f_AP_state x0 x1 M = some (v, M')) : kxMet l y_AP_state b_AP_state 2 (some .int) 7 110 G M [.ref (G.2.2 + x0), .int x1] (xoI v) M' := by
  refine x_met hst (by decide) rfl (Nat.le_of_ble_eq_true rfl) (fun p e s m args below meth c C0 C1 hP ls hl => ?_)
  have hx := C0.1
  have hb := C0.2.1
  have hl : lv_has ls 2 [(0, .ref (G.2.2 + x0)), (1, .int x1)] := hl
  have hS : va_S (fm_A G.2.2) s.heap s.heap [] := va_S.rf
  unfold f_AP_state at h
  refine lv_iload_n hx hb d_AP_state_0 rfl (lv_at hl 1 rfl) ?_
  rcases ob3 h with ⟨_, M101, e102, h⟩ | ⟨E9, e102, rfl⟩
  rotate_left
  · exact x_thrown (x_runS (o := .inr E9) C0 C1.2.1 L_AP_191 (As := [.int x1]) (c_AP_needThread (v := .inr E9) l C1.1 G x1 e102) ⟨Nat.le_of_ble_eq_true rfl, Nat.le_of_ble_eq_true rfl⟩ hP hS rfl hl.1 rfl (Nat.le_of_ble_eq_true rfl) d_AP_state_1 ⟨Nat.le_refl 1, Nat.le_refl 6⟩) hS (fun H locs q9 ce hP hS h1 h2 h3 => x_out C0 C1 hP hS h1 h2 h3)
  refine x_backv (x_runS (o := .inl none) C0 C1.2.1 L_AP_191 (As := [.int x1]) (c_AP_needThread (v := .inl ()) l C1.1 G x1 e102) ⟨Nat.le_of_ble_eq_true rfl, Nat.le_of_ble_eq_true rfl⟩ hP hS rfl hl.1 rfl (Nat.le_of_ble_eq_true rfl) d_AP_state_1 ⟨Nat.zero_le _, Nat.zero_le _⟩) hS (fun H locs hP hS => ?_)
  refine lv_aload_n hx hb d_AP_state_4 rfl (lv_at hl 0 rfl) ?_
  obtain ⟨q103, e104, h⟩ := ob h
  refine k_gr C0 F_AP_12 hP e104 d_AP_state_5 ?_
  obtain ⟨q105, e106, h⟩ := ob h
  refine k_gr C0 F_AP_194 hP e106 d_AP_state_8 ?_
  refine lv_iload_n hx hb d_AP_state_11 rfl (lv_at hl 1 rfl) ?_
  obtain ⟨q107, e108, h⟩ := ob h
  refine k_ar C0 hP e108 d_AP_state_12 ?_
  obtain ⟨_, e109, h⟩ := ob h
  obtain ⟨x112, M110, e111, h⟩ := ob2 h
  refine k_cV C0 L_AP_213 (As := []) (c_Strand_condition l G q107 e111) ⟨rfl, rfl⟩ ⟨Nat.le_of_ble_eq_true rfl, Nat.le_of_ble_eq_true rfl⟩ hP hS (ck_of e109) ly_Strand rfl hl.1 rfl (Nat.le_of_ble_eq_true rfl) d_AP_state_13 ⟨Nat.zero_le _, Nat.zero_le _⟩ (fun H locs hP hS => ?_)
  cases h
  exact x_ret (r_iret C0 hP hS d_AP_state_16)
/-! AllocationProfiler.result -/
theorem d_AP_result_0 : decode b_AP_result 0 = .ok (.iload_n 1, 1) := by decide +kernel
theorem d_AP_result_1 : decode b_AP_result 1 = .ok (.invokestatic 191, 3) := by decide +kernel
theorem d_AP_result_4 : decode b_AP_result 4 = .ok (.aload_n 0, 1) := by decide +kernel
theorem d_AP_result_5 : decode b_AP_result 5 = .ok (.getfield 12, 3) := by decide +kernel
theorem d_AP_result_8 : decode b_AP_result 8 = .ok (.getfield 194, 3) := by decide +kernel
theorem d_AP_result_11 : decode b_AP_result 11 = .ok (.iload_n 1, 1) := by decide +kernel
theorem d_AP_result_12 : decode b_AP_result 12 = .ok (.aaload, 1) := by decide +kernel
theorem d_AP_result_13 : decode b_AP_result 13 = .ok (.invokevirtual 213, 3) := by decide +kernel
theorem d_AP_result_16 : decode b_AP_result 16 = .ok (.istore_n 2, 1) := by decide +kernel
theorem d_AP_result_17 : decode b_AP_result 17 = .ok (.iload_n 2, 1) := by decide +kernel
theorem d_AP_result_18 : decode b_AP_result 18 = .ok (.iconst 2, 1) := by decide +kernel
theorem d_AP_result_19 : decode b_AP_result 19 = .ok (.if_icmp .eq 18, 3) := by decide +kernel
theorem d_AP_result_22 : decode b_AP_result 22 = .ok (.iload_n 2, 1) := by decide +kernel
theorem d_AP_result_23 : decode b_AP_result 23 = .ok (.iconst 3, 1) := by decide +kernel
theorem d_AP_result_24 : decode b_AP_result 24 = .ok (.if_icmp .eq 13, 3) := by decide +kernel
theorem d_AP_result_27 : decode b_AP_result 27 = .ok (.new 186, 3) := by decide +kernel
theorem d_AP_result_30 : decode b_AP_result 30 = .ok (.dup, 1) := by decide +kernel
theorem d_AP_result_31 : decode b_AP_result 31 = .ok (.ldc 217, 2) := by decide +kernel
theorem d_AP_result_33 : decode b_AP_result 33 = .ok (.invokespecial 190, 3) := by decide +kernel
theorem d_AP_result_36 : decode b_AP_result 36 = .ok (.athrow, 1) := by decide +kernel
theorem d_AP_result_37 : decode b_AP_result 37 = .ok (.aload_n 0, 1) := by decide +kernel
theorem d_AP_result_38 : decode b_AP_result 38 = .ok (.getfield 12, 3) := by decide +kernel
theorem d_AP_result_41 : decode b_AP_result 41 = .ok (.getfield 194, 3) := by decide +kernel
theorem d_AP_result_44 : decode b_AP_result 44 = .ok (.iload_n 1, 1) := by decide +kernel
theorem d_AP_result_45 : decode b_AP_result 45 = .ok (.aaload, 1) := by decide +kernel
theorem d_AP_result_46 : decode b_AP_result 46 = .ok (.getfield 219, 3) := by decide +kernel
theorem d_AP_result_49 : decode b_AP_result 49 = .ok (.ireturn, 1) := by decide +kernel
def j_AP_result_37 (x0 : Nat) (x1 : Int32) (M : fm_M) : Option ((Int32 ⊕ String) × fm_M) :=
  (gr x0 9 0).bind fun q101 =>
  (gr q101 5 4).bind fun q103 =>
  (ar q103 x1).bind fun q105 =>
  (gi q105 7 4 M).bind fun x107 =>
  some (.inl x107, M)
def f_AP_result (x0 : Nat) (x1 : Int32) (M : fm_M) : Option ((Int32 ⊕ String) × fm_M) :=
  xd (f_AP_needThread x1 M) fun _ M109 =>
  (gr x0 9 0).bind fun q111 =>
  (gr q111 5 4).bind fun q113 =>
  (ar q113 x1).bind fun q115 =>
  (ck q115 7).bind fun _ =>
  bd (f_Strand_condition q115 M109) fun x120 M118 =>
  if x120 = 2 then
    j_AP_result_37 x0 x1 M118
  else
    if x120 = 3 then
      j_AP_result_37 x0 x1 M118
    else
      some (.inr "java/util/NoSuchElementException", M118)
set_option maxHeartbeats 4000000 in
set_option maxRecDepth 100000 in
theorem w_AP_result_37 {p : Program} {l : Launch} {e : Env} {s : State} {m : MethodId} {args : Array Value} {below : List Frame} {meth : Method} {c : Code} {G : fm_G} (C0 : fm_C p s m args meth c G (.code y_AP_result b_AP_result 3 (some .int)) "AllocationProfiler" b_AP_result 3 (some .int)) (C1 : fx_C l s c G) {v : Int32 ⊕ String} {M' : fm_M} (x0 : Nat) (x1 : Int32) {M : fm_M} {H : Heap} {locs : List Loc} (hP : kP G M H) (hS : kS G s H locs) {ls : Array Slot} (hl : lv_has ls 3 [(0, .ref (G.2.2 + x0)), (1, .int x1)]) (h : j_AP_result_37 x0 x1 M = some (v, M')) : W p l e (fx_rm 7 110 (xoI v)) s m args below meth c H locs 0 0 (vx_MQ below (fx_Q G (xoI v) M') (fx_X G (xoI v) M') args s (fx_c (xoI v)) (fx_s (xoI v)) (fm_A G.2.2)) (F0 m 37 ls []) := by
  have hx := C0.1
  have hb := C0.2.1
  have hown := C0.2.2.2.2.1
  have hts := C0.2.2.2.2.2.1
  unfold j_AP_result_37 at h
  refine lv_aload_n hx hb d_AP_result_37 rfl (lv_at hl 0 rfl) ?_
  obtain ⟨q101, e102, h⟩ := ob h
  refine k_gr C0 F_AP_12 hP e102 d_AP_result_38 ?_
  obtain ⟨q103, e104, h⟩ := ob h
  refine k_gr C0 F_AP_194 hP e104 d_AP_result_41 ?_
  refine lv_iload_n hx hb d_AP_result_44 rfl (lv_at hl 1 rfl) ?_
  obtain ⟨q105, e106, h⟩ := ob h
  refine k_ar C0 hP e106 d_AP_result_45 ?_
  obtain ⟨x107, e108, h⟩ := ob h
  refine k_gi C0 F_AP_219 ik_7_4 hP e108 d_AP_result_46 ?_
  cases h
  exact x_ret (r_iret C0 hP hS d_AP_result_49)
set_option maxHeartbeats 4000000 in
set_option maxRecDepth 100000 in
theorem c_AP_result (l : Launch) (hst : l.stackTraces = false) (G : fm_G) (x0 : Nat) (x1 : Int32) {v : Int32 ⊕ String} {M M' : fm_M} (h : f_AP_result x0 x1 M = some (v, M')) : kxMet l y_AP_result b_AP_result 3 (some .int) 7 110 G M [.ref (G.2.2 + x0), .int x1] (xoI v) M' := by
  refine x_met hst (by decide) rfl (Nat.le_of_ble_eq_true rfl) (fun p e s m args below meth c C0 C1 hP ls hl => ?_)
  have hx := C0.1
  have hb := C0.2.1
  have hown := C0.2.2.2.2.1
  have hts := C0.2.2.2.2.2.1
  have hl : lv_has ls 3 [(0, .ref (G.2.2 + x0)), (1, .int x1)] := hl
  have hS : va_S (fm_A G.2.2) s.heap s.heap [] := va_S.rf
  unfold f_AP_result at h
  refine lv_iload_n hx hb d_AP_result_0 rfl (lv_at hl 1 rfl) ?_
  rcases ob3 h with ⟨_, M109, e110, h⟩ | ⟨E9, e110, rfl⟩
  rotate_left
  · exact x_thrown (x_runS (o := .inr E9) C0 C1.2.1 L_AP_191 (As := [.int x1]) (c_AP_needThread (v := .inr E9) l C1.1 G x1 e110) ⟨Nat.le_of_ble_eq_true rfl, Nat.le_of_ble_eq_true rfl⟩ hP hS rfl hl.1 rfl (Nat.le_of_ble_eq_true rfl) d_AP_result_1 ⟨Nat.le_refl 1, Nat.le_refl 6⟩) hS (fun H locs q9 ce hP hS h1 h2 h3 => x_out C0 C1 hP hS h1 h2 h3)
  refine x_backv (x_runS (o := .inl none) C0 C1.2.1 L_AP_191 (As := [.int x1]) (c_AP_needThread (v := .inl ()) l C1.1 G x1 e110) ⟨Nat.le_of_ble_eq_true rfl, Nat.le_of_ble_eq_true rfl⟩ hP hS rfl hl.1 rfl (Nat.le_of_ble_eq_true rfl) d_AP_result_1 ⟨Nat.zero_le _, Nat.zero_le _⟩) hS (fun H locs hP hS => ?_)
  refine lv_aload_n hx hb d_AP_result_4 rfl (lv_at hl 0 rfl) ?_
  obtain ⟨q111, e112, h⟩ := ob h
  refine k_gr C0 F_AP_12 hP e112 d_AP_result_5 ?_
  obtain ⟨q113, e114, h⟩ := ob h
  refine k_gr C0 F_AP_194 hP e114 d_AP_result_8 ?_
  refine lv_iload_n hx hb d_AP_result_11 rfl (lv_at hl 1 rfl) ?_
  obtain ⟨q115, e116, h⟩ := ob h
  refine k_ar C0 hP e116 d_AP_result_12 ?_
  obtain ⟨_, e117, h⟩ := ob h
  obtain ⟨x120, M118, e119, h⟩ := ob2 h
  refine k_cV C0 L_AP_213 (As := []) (c_Strand_condition l G q115 e119) ⟨rfl, rfl⟩ ⟨Nat.le_of_ble_eq_true rfl, Nat.le_of_ble_eq_true rfl⟩ hP hS (ck_of e117) ly_Strand rfl hl.1 rfl (Nat.le_of_ble_eq_true rfl) d_AP_result_13 ⟨Nat.zero_le _, Nat.zero_le _⟩ (fun H locs hP hS => ?_)
  refine lv_istore_n (lv' := [(2, .int x120), (0, .ref (G.2.2 + x0)), (1, .int x1)]) hx hb d_AP_result_16 rfl hl (by decide) rfl (fun ls hl => ?_)
  refine lv_iload_n hx hb d_AP_result_17 rfl (lv_at hl 0 rfl) ?_
  refine lv_iconst (v := 2) hx hb d_AP_result_18 ic_2 ?_
  refine lv_icmp_eq (tgt := 37) hx hb d_AP_result_19 (by decide) (fun c121 => ?_) (fun c121 => ?_)
  · rw [if_pos c121] at h
    exact w_AP_result_37 C0 C1 x0 x1 hP hS (lv_sub hl [1, 2] rfl) h
  · rw [if_neg c121] at h
    refine lv_iload_n hx hb d_AP_result_22 rfl (lv_at hl 0 rfl) ?_
    refine lv_iconst (v := 3) hx hb d_AP_result_23 ic_3 ?_
    refine lv_icmp_eq (tgt := 37) hx hb d_AP_result_24 (by decide) (fun c122 => ?_) (fun c122 => ?_)
    · rw [if_pos c122] at h
      exact w_AP_result_37 C0 C1 x0 x1 hP hS (lv_sub hl [1, 2] rfl) h
    · rw [if_neg c122] at h
      cases h
      exact x_throw C0 C1 T_NoSuchElementException (text := "it has not ended") (by decide) hP hS hl.1 d_AP_result_27 d_AP_result_30 d_AP_result_31 d_AP_result_33 d_AP_result_36 (Nat.le_of_ble_eq_true rfl) (Nat.le_of_ble_eq_true rfl) (Nat.le_refl 1) (Nat.le_refl 6)
/-! AllocationProfiler.object -/
theorem d_AP_object_0 : decode b_AP_object 0 = .ok (.iload_n 1, 1) := by decide +kernel
theorem d_AP_object_1 : decode b_AP_object 1 = .ok (.ifCond .lt 14, 3) := by decide +kernel
theorem d_AP_object_4 : decode b_AP_object 4 = .ok (.iload_n 1, 1) := by decide +kernel
theorem d_AP_object_5 : decode b_AP_object 5 = .ok (.aload_n 0, 1) := by decide +kernel
theorem d_AP_object_6 : decode b_AP_object 6 = .ok (.getfield 30, 3) := by decide +kernel
theorem d_AP_object_9 : decode b_AP_object 9 = .ok (.getfield 222, 3) := by decide +kernel
theorem d_AP_object_12 : decode b_AP_object 12 = .ok (.if_icmp .le 13, 3) := by decide +kernel
theorem d_AP_object_15 : decode b_AP_object 15 = .ok (.new 69, 3) := by decide +kernel
theorem d_AP_object_18 : decode b_AP_object 18 = .ok (.dup, 1) := by decide +kernel
theorem d_AP_object_19 : decode b_AP_object 19 = .ok (.ldc 227, 2) := by decide +kernel
theorem d_AP_object_21 : decode b_AP_object 21 = .ok (.invokespecial 73, 3) := by decide +kernel
theorem d_AP_object_24 : decode b_AP_object 24 = .ok (.athrow, 1) := by decide +kernel
theorem d_AP_object_25 : decode b_AP_object 25 = .ok (.iload_n 1, 1) := by decide +kernel
theorem d_AP_object_26 : decode b_AP_object 26 = .ok (.ifCond .ne 13, 3) := by decide +kernel
theorem d_AP_object_29 : decode b_AP_object 29 = .ok (.aload_n 0, 1) := by decide +kernel
theorem d_AP_object_30 : decode b_AP_object 30 = .ok (.getfield 30, 3) := by decide +kernel
theorem d_AP_object_33 : decode b_AP_object 33 = .ok (.getfield 222, 3) := by decide +kernel
theorem d_AP_object_36 : decode b_AP_object 36 = .ok (.goto 11, 3) := by decide +kernel
theorem d_AP_object_39 : decode b_AP_object 39 = .ok (.aload_n 0, 1) := by decide +kernel
theorem d_AP_object_40 : decode b_AP_object 40 = .ok (.getfield 30, 3) := by decide +kernel
theorem d_AP_object_43 : decode b_AP_object 43 = .ok (.iload_n 1, 1) := by decide +kernel
theorem d_AP_object_44 : decode b_AP_object 44 = .ok (.invokevirtual 229, 3) := by decide +kernel
theorem d_AP_object_47 : decode b_AP_object 47 = .ok (.ireturn, 1) := by decide +kernel
def j_AP_object_15  (M : fm_M) : Option ((Int32 ⊕ String) × fm_M) :=
  some (.inr "java/lang/IllegalArgumentException", M)
def f_AP_object (x0 : Nat) (x1 : Int32) (M : fm_M) : Option ((Int32 ⊕ String) × fm_M) :=
  if x1 < 0 then
    j_AP_object_15 M
  else
    (gr x0 9 3).bind fun q102 =>
    (gi q102 3 1 M).bind fun x104 =>
    if x1 ≤ x104 then
      if x1 = 0 then
        (gr x0 9 3).bind fun q114 =>
        (gi q114 3 1 M).bind fun x116 =>
        some (.inl x116, M)
      else
        (gr x0 9 3).bind fun q108 =>
        (ck q108 3).bind fun _ =>
        bd (f_Heap_sizeOf q108 x1 M) fun x113 M111 =>
        some (.inl x113, M111)
    else
      j_AP_object_15 M
set_option maxHeartbeats 4000000 in
set_option maxRecDepth 100000 in
theorem w_AP_object_15 {p : Program} {l : Launch} {e : Env} {s : State} {m : MethodId} {args : Array Value} {below : List Frame} {meth : Method} {c : Code} {G : fm_G} (C0 : fm_C p s m args meth c G (.code y_AP_object b_AP_object 2 (some .int)) "AllocationProfiler" b_AP_object 2 (some .int)) (C1 : fx_C l s c G) {v : Int32 ⊕ String} {M' : fm_M}  {M : fm_M} {H : Heap} {locs : List Loc} (hP : kP G M H) (hS : kS G s H locs) {ls : Array Slot} (hl : lv_has ls 2 []) (h : j_AP_object_15  M = some (v, M')) : W p l e (fx_rm 6 90 (xoI v)) s m args below meth c H locs 0 0 (vx_MQ below (fx_Q G (xoI v) M') (fx_X G (xoI v) M') args s (fx_c (xoI v)) (fx_s (xoI v)) (fm_A G.2.2)) (F0 m 15 ls []) := by
  have hx := C0.1
  have hb := C0.2.1
  have hown := C0.2.2.2.2.1
  have hts := C0.2.2.2.2.2.1
  unfold j_AP_object_15 at h
  cases h
  exact x_throw C0 C1 T_IllegalArgumentException (text := "no such object") (by decide) hP hS hl.1 d_AP_object_15 d_AP_object_18 d_AP_object_19 d_AP_object_21 d_AP_object_24 (Nat.le_of_ble_eq_true rfl) (Nat.le_of_ble_eq_true rfl) (Nat.le_refl 1) (Nat.le_refl 6)
set_option maxHeartbeats 4000000 in
set_option maxRecDepth 100000 in
theorem c_AP_object (l : Launch) (hst : l.stackTraces = false) (G : fm_G) (x0 : Nat) (x1 : Int32) {v : Int32 ⊕ String} {M M' : fm_M} (h : f_AP_object x0 x1 M = some (v, M')) : kxMet l y_AP_object b_AP_object 2 (some .int) 6 90 G M [.ref (G.2.2 + x0), .int x1] (xoI v) M' := by
  refine x_met hst (by decide) rfl (Nat.le_of_ble_eq_true rfl) (fun p e s m args below meth c C0 C1 hP ls hl => ?_)
  have hx := C0.1
  have hb := C0.2.1
  have hown := C0.2.2.2.2.1
  have hts := C0.2.2.2.2.2.1
  have hl : lv_has ls 2 [(0, .ref (G.2.2 + x0)), (1, .int x1)] := hl
  have hS : va_S (fm_A G.2.2) s.heap s.heap [] := va_S.rf
  unfold f_AP_object at h
  refine lv_iload_n hx hb d_AP_object_0 rfl (lv_at hl 1 rfl) ?_
  refine lv_if_lt (tgt := 15) hx hb d_AP_object_1 (by decide) (fun c101 => ?_) (fun c101 => ?_)
  · rw [if_pos c101] at h
    exact w_AP_object_15 C0 C1 hP hS (lv_sub hl [] rfl) h
  · rw [if_neg c101] at h
    refine lv_iload_n hx hb d_AP_object_4 rfl (lv_at hl 1 rfl) ?_
    refine lv_aload_n hx hb d_AP_object_5 rfl (lv_at hl 0 rfl) ?_
    obtain ⟨q102, e103, h⟩ := ob h
    refine k_gr C0 F_AP_30 hP e103 d_AP_object_6 ?_
    obtain ⟨x104, e105, h⟩ := ob h
    refine k_gi C0 F_AP_222 ik_3_1 hP e105 d_AP_object_9 ?_
    refine lv_icmp_le (tgt := 25) hx hb d_AP_object_12 (by decide) (fun c106 => ?_) (fun c106 => ?_)
    · rw [if_pos c106] at h
      refine lv_iload_n hx hb d_AP_object_25 rfl (lv_at hl 1 rfl) ?_
      refine lv_if_ne (tgt := 39) hx hb d_AP_object_26 (by decide) (fun c107 => ?_) (fun c107 => ?_)
      · rw [if_neg c107] at h
        refine lv_aload_n hx hb d_AP_object_39 rfl (lv_at hl 0 rfl) ?_
        obtain ⟨q108, e109, h⟩ := ob h
        refine k_gr C0 F_AP_30 hP e109 d_AP_object_40 ?_
        refine lv_iload_n hx hb d_AP_object_43 rfl (lv_at hl 1 rfl) ?_
        obtain ⟨_, e110, h⟩ := ob h
        obtain ⟨x113, M111, e112, h⟩ := ob2 h
        refine k_cV C0 L_AP_229 (As := [.int x1]) (c_Heap_sizeOf l G q108 x1 e112) ⟨rfl, rfl⟩ ⟨Nat.le_of_ble_eq_true rfl, Nat.le_of_ble_eq_true rfl⟩ hP hS (ck_of e110) ly_Heap rfl hl.1 rfl (Nat.le_of_ble_eq_true rfl) d_AP_object_44 ⟨Nat.zero_le _, Nat.zero_le _⟩ (fun H locs hP hS => ?_)
        cases h
        exact x_ret (r_iret C0 hP hS d_AP_object_47)
      · rw [if_pos c107] at h
        refine lv_aload_n hx hb d_AP_object_29 rfl (lv_at hl 0 rfl) ?_
        obtain ⟨q114, e115, h⟩ := ob h
        refine k_gr C0 F_AP_30 hP e115 d_AP_object_30 ?_
        obtain ⟨x116, e117, h⟩ := ob h
        refine k_gi C0 F_AP_222 ik_3_1 hP e117 d_AP_object_33 ?_
        refine lv_goto (tgt := 47) hx hb d_AP_object_36 (by decide) ?_
        cases h
        exact x_ret (r_iret C0 hP hS d_AP_object_47)
    · rw [if_neg c106] at h
      exact w_AP_object_15 C0 C1 hP hS (lv_sub hl [] rfl) h
/-! AllocationProfiler.needSite -/
theorem d_AP_needSite_0 : decode b_AP_needSite 0 = .ok (.iload_n 1, 1) := by decide +kernel
theorem d_AP_needSite_1 : decode b_AP_needSite 1 = .ok (.ifCond .lt 14, 3) := by decide +kernel
theorem d_AP_needSite_4 : decode b_AP_needSite 4 = .ok (.iload_n 1, 1) := by decide +kernel
theorem d_AP_needSite_5 : decode b_AP_needSite 5 = .ok (.aload_n 0, 1) := by decide +kernel
theorem d_AP_needSite_6 : decode b_AP_needSite 6 = .ok (.getfield 35, 3) := by decide +kernel
theorem d_AP_needSite_9 : decode b_AP_needSite 9 = .ok (.getfield 275, 3) := by decide +kernel
theorem d_AP_needSite_12 : decode b_AP_needSite 12 = .ok (.if_icmp .lt 14, 3) := by decide +kernel
theorem d_AP_needSite_15 : decode b_AP_needSite 15 = .ok (.new 69, 3) := by decide +kernel
theorem d_AP_needSite_18 : decode b_AP_needSite 18 = .ok (.dup, 1) := by decide +kernel
theorem d_AP_needSite_19 : decode b_AP_needSite 19 = .ok (.ldc_w 277, 3) := by decide +kernel
theorem d_AP_needSite_22 : decode b_AP_needSite 22 = .ok (.invokespecial 73, 3) := by decide +kernel
theorem d_AP_needSite_25 : decode b_AP_needSite 25 = .ok (.athrow, 1) := by decide +kernel
theorem d_AP_needSite_26 : decode b_AP_needSite 26 = .ok (.return_, 1) := by decide +kernel
def j_AP_needSite_15  (M : fm_M) : Option ((Unit ⊕ String) × fm_M) :=
  some (.inr "java/lang/IllegalArgumentException", M)
def f_AP_needSite (x0 : Nat) (x1 : Int32) (M : fm_M) : Option ((Unit ⊕ String) × fm_M) :=
  if x1 < 0 then
    j_AP_needSite_15 M
  else
    (gr x0 9 4).bind fun q102 =>
    (gi q102 4 9 M).bind fun x104 =>
    if x1 < x104 then
      some (.inl (), M)
    else
      j_AP_needSite_15 M
set_option maxHeartbeats 4000000 in
set_option maxRecDepth 100000 in
theorem w_AP_needSite_15 {p : Program} {l : Launch} {e : Env} {s : State} {m : MethodId} {args : Array Value} {below : List Frame} {meth : Method} {c : Code} {G : fm_G} (C0 : fm_C p s m args meth c G (.code y_AP_needSite b_AP_needSite 2 none) "AllocationProfiler" b_AP_needSite 2 none) (C1 : fx_C l s c G) {v : Unit ⊕ String} {M' : fm_M}  {M : fm_M} {H : Heap} {locs : List Loc} (hP : kP G M H) (hS : kS G s H locs) {ls : Array Slot} (hl : lv_has ls 2 []) (h : j_AP_needSite_15  M = some (v, M')) : W p l e (fx_rm 6 90 (xoV v)) s m args below meth c H locs 0 0 (vx_MQ below (fx_Q G (xoV v) M') (fx_X G (xoV v) M') args s (fx_c (xoV v)) (fx_s (xoV v)) (fm_A G.2.2)) (F0 m 15 ls []) := by
  have hx := C0.1
  have hb := C0.2.1
  have hown := C0.2.2.2.2.1
  have hts := C0.2.2.2.2.2.1
  unfold j_AP_needSite_15 at h
  cases h
  exact x_throwW C0 C1 T_IllegalArgumentException (text := "no such site") (by decide) hP hS hl.1 d_AP_needSite_15 d_AP_needSite_18 d_AP_needSite_19 d_AP_needSite_22 d_AP_needSite_25 (Nat.le_of_ble_eq_true rfl) (Nat.le_of_ble_eq_true rfl) (Nat.le_refl 1) (Nat.le_refl 6)
set_option maxHeartbeats 4000000 in
set_option maxRecDepth 100000 in
theorem c_AP_needSite (l : Launch) (hst : l.stackTraces = false) (G : fm_G) (x0 : Nat) (x1 : Int32) {v : Unit ⊕ String} {M M' : fm_M} (h : f_AP_needSite x0 x1 M = some (v, M')) : kxMet l y_AP_needSite b_AP_needSite 2 none 6 90 G M [.ref (G.2.2 + x0), .int x1] (xoV v) M' := by
  refine x_met hst (by decide) rfl (Nat.le_of_ble_eq_true rfl) (fun p e s m args below meth c C0 C1 hP ls hl => ?_)
  have hx := C0.1
  have hb := C0.2.1
  have hown := C0.2.2.2.2.1
  have hts := C0.2.2.2.2.2.1
  have hl : lv_has ls 2 [(0, .ref (G.2.2 + x0)), (1, .int x1)] := hl
  have hS : va_S (fm_A G.2.2) s.heap s.heap [] := va_S.rf
  unfold f_AP_needSite at h
  refine lv_iload_n hx hb d_AP_needSite_0 rfl (lv_at hl 1 rfl) ?_
  refine lv_if_lt (tgt := 15) hx hb d_AP_needSite_1 (by decide) (fun c101 => ?_) (fun c101 => ?_)
  · rw [if_pos c101] at h
    exact w_AP_needSite_15 C0 C1 hP hS (lv_sub hl [] rfl) h
  · rw [if_neg c101] at h
    refine lv_iload_n hx hb d_AP_needSite_4 rfl (lv_at hl 1 rfl) ?_
    refine lv_aload_n hx hb d_AP_needSite_5 rfl (lv_at hl 0 rfl) ?_
    obtain ⟨q102, e103, h⟩ := ob h
    refine k_gr C0 F_AP_35 hP e103 d_AP_needSite_6 ?_
    obtain ⟨x104, e105, h⟩ := ob h
    refine k_gi C0 F_AP_275 ik_4_9 hP e105 d_AP_needSite_9 ?_
    refine lv_icmp_lt (tgt := 26) hx hb d_AP_needSite_12 (by decide) (fun c106 => ?_) (fun c106 => ?_)
    · rw [if_pos c106] at h
      cases h
      exact x_ret (r_vret C0 hP hS d_AP_needSite_26)
    · rw [if_neg c106] at h
      exact w_AP_needSite_15 C0 C1 hP hS (lv_sub hl [] rfl) h
/-! AllocationProfiler.count -/
theorem d_AP_count_0 : decode b_AP_count 0 = .ok (.aload_n 0, 1) := by decide +kernel
theorem d_AP_count_1 : decode b_AP_count 1 = .ok (.iload_n 1, 1) := by decide +kernel
theorem d_AP_count_2 : decode b_AP_count 2 = .ok (.invokevirtual 230, 3) := by decide +kernel
theorem d_AP_count_5 : decode b_AP_count 5 = .ok (.iload_n 2, 1) := by decide +kernel
theorem d_AP_count_6 : decode b_AP_count 6 = .ok (.iconst (-1), 1) := by decide +kernel
theorem d_AP_count_7 : decode b_AP_count 7 = .ok (.if_icmp .eq 7, 3) := by decide +kernel
theorem d_AP_count_10 : decode b_AP_count 10 = .ok (.iload_n 2, 1) := by decide +kernel
theorem d_AP_count_11 : decode b_AP_count 11 = .ok (.invokestatic 191, 3) := by decide +kernel
theorem d_AP_count_14 : decode b_AP_count 14 = .ok (.iload_n 3, 1) := by decide +kernel
theorem d_AP_count_15 : decode b_AP_count 15 = .ok (.ifCond .lt 8, 3) := by decide +kernel
theorem d_AP_count_18 : decode b_AP_count 18 = .ok (.iload_n 3, 1) := by decide +kernel
theorem d_AP_count_19 : decode b_AP_count 19 = .ok (.iconst 2, 1) := by decide +kernel
theorem d_AP_count_20 : decode b_AP_count 20 = .ok (.if_icmp .le 13, 3) := by decide +kernel
theorem d_AP_count_23 : decode b_AP_count 23 = .ok (.new 69, 3) := by decide +kernel
theorem d_AP_count_26 : decode b_AP_count 26 = .ok (.dup, 1) := by decide +kernel
theorem d_AP_count_27 : decode b_AP_count 27 = .ok (.ldc 166, 2) := by decide +kernel
theorem d_AP_count_29 : decode b_AP_count 29 = .ok (.invokespecial 73, 3) := by decide +kernel
theorem d_AP_count_32 : decode b_AP_count 32 = .ok (.athrow, 1) := by decide +kernel
theorem d_AP_count_33 : decode b_AP_count 33 = .ok (.iload_n 3, 1) := by decide +kernel
theorem d_AP_count_34 : decode b_AP_count 34 = .ok (.iconst 2, 1) := by decide +kernel
theorem d_AP_count_35 : decode b_AP_count 35 = .ok (.if_icmp .ne 18, 3) := by decide +kernel
theorem d_AP_count_38 : decode b_AP_count 38 = .ok (.iload_n 2, 1) := by decide +kernel
theorem d_AP_count_39 : decode b_AP_count 39 = .ok (.iconst (-1), 1) := by decide +kernel
theorem d_AP_count_40 : decode b_AP_count 40 = .ok (.if_icmp .eq 13, 3) := by decide +kernel
theorem d_AP_count_43 : decode b_AP_count 43 = .ok (.new 186, 3) := by decide +kernel
theorem d_AP_count_46 : decode b_AP_count 46 = .ok (.dup, 1) := by decide +kernel
theorem d_AP_count_47 : decode b_AP_count 47 = .ok (.ldc 233, 2) := by decide +kernel
theorem d_AP_count_49 : decode b_AP_count 49 = .ok (.invokespecial 190, 3) := by decide +kernel
theorem d_AP_count_52 : decode b_AP_count 52 = .ok (.athrow, 1) := by decide +kernel
theorem d_AP_count_53 : decode b_AP_count 53 = .ok (.iload_n 3, 1) := by decide +kernel
theorem d_AP_count_54 : decode b_AP_count 54 = .ok (.ifCond .ne 15, 3) := by decide +kernel
theorem d_AP_count_57 : decode b_AP_count 57 = .ok (.aload_n 0, 1) := by decide +kernel
theorem d_AP_count_58 : decode b_AP_count 58 = .ok (.getfield 35, 3) := by decide +kernel
theorem d_AP_count_61 : decode b_AP_count 61 = .ok (.iload_n 1, 1) := by decide +kernel
theorem d_AP_count_62 : decode b_AP_count 62 = .ok (.iload_n 2, 1) := by decide +kernel
theorem d_AP_count_63 : decode b_AP_count 63 = .ok (.invokevirtual 235, 3) := by decide +kernel
theorem d_AP_count_66 : decode b_AP_count 66 = .ok (.goto 30, 3) := by decide +kernel
theorem d_AP_count_69 : decode b_AP_count 69 = .ok (.iload_n 3, 1) := by decide +kernel
theorem d_AP_count_70 : decode b_AP_count 70 = .ok (.iconst 1, 1) := by decide +kernel
theorem d_AP_count_71 : decode b_AP_count 71 = .ok (.if_icmp .ne 15, 3) := by decide +kernel
theorem d_AP_count_74 : decode b_AP_count 74 = .ok (.aload_n 0, 1) := by decide +kernel
theorem d_AP_count_75 : decode b_AP_count 75 = .ok (.getfield 35, 3) := by decide +kernel
theorem d_AP_count_78 : decode b_AP_count 78 = .ok (.iload_n 1, 1) := by decide +kernel
theorem d_AP_count_79 : decode b_AP_count 79 = .ok (.iload_n 2, 1) := by decide +kernel
theorem d_AP_count_80 : decode b_AP_count 80 = .ok (.invokevirtual 239, 3) := by decide +kernel
theorem d_AP_count_83 : decode b_AP_count 83 = .ok (.goto 13, 3) := by decide +kernel
theorem d_AP_count_86 : decode b_AP_count 86 = .ok (.aload_n 0, 1) := by decide +kernel
theorem d_AP_count_87 : decode b_AP_count 87 = .ok (.getfield 35, 3) := by decide +kernel
theorem d_AP_count_90 : decode b_AP_count 90 = .ok (.getfield 242, 3) := by decide +kernel
theorem d_AP_count_93 : decode b_AP_count 93 = .ok (.iload_n 1, 1) := by decide +kernel
theorem d_AP_count_94 : decode b_AP_count 94 = .ok (.iaload, 1) := by decide +kernel
theorem d_AP_count_95 : decode b_AP_count 95 = .ok (.i2l, 1) := by decide +kernel
theorem d_AP_count_96 : decode b_AP_count 96 = .ok (.lreturn, 1) := by decide +kernel
def j_AP_count_23  (M : fm_M) : Option ((Int64 ⊕ String) × fm_M) :=
  some (.inr "java/lang/IllegalArgumentException", M)
def j_AP_count_53 (x0 : Nat) (x1 : Int32) (x2 : Int32) (x3 : Int32) (M : fm_M) : Option ((Int64 ⊕ String) × fm_M) :=
  if x3 = 0 then
    (gr x0 9 4).bind fun q115 =>
    (ck q115 4).bind fun _ =>
    bd (f_Ledger_objectsOf q115 x1 x2 M) fun x120 M118 =>
    some (.inl x120, M118)
  else
    if x3 = 1 then
      (gr x0 9 4).bind fun q109 =>
      (ck q109 4).bind fun _ =>
      bd (f_Ledger_bytesOf q109 x1 x2 M) fun x114 M112 =>
      some (.inl x114, M112)
    else
      (gr x0 9 4).bind fun q103 =>
      (gr q103 4 3).bind fun q105 =>
      (ai q105 x1 M).bind fun x107 =>
      some (.inl x107.toInt64, M)
def j_AP_count_14 (x0 : Nat) (x1 : Int32) (x2 : Int32) (x3 : Int32) (M : fm_M) : Option ((Int64 ⊕ String) × fm_M) :=
  if x3 < 0 then
    j_AP_count_23 M
  else
    if x3 ≤ 2 then
      if x3 = 2 then
        if x2 = (-1) then
          j_AP_count_53 x0 x1 x2 x3 M
        else
          some (.inr "java/util/NoSuchElementException", M)
      else
        j_AP_count_53 x0 x1 x2 x3 M
    else
      j_AP_count_23 M
def f_AP_count (x0 : Nat) (x1 : Int32) (x2 : Int32) (x3 : Int32) (M : fm_M) : Option ((Int64 ⊕ String) × fm_M) :=
  (ck x0 9).bind fun _ =>
  xd (f_AP_needSite x0 x1 M) fun _ M126 =>
  if x2 = (-1) then
    j_AP_count_14 x0 x1 x2 x3 M126
  else
    xd (f_AP_needThread x2 M126) fun _ M129 =>
    j_AP_count_14 x0 x1 x2 x3 M129
set_option maxHeartbeats 4000000 in
set_option maxRecDepth 100000 in
theorem w_AP_count_23 {p : Program} {l : Launch} {e : Env} {s : State} {m : MethodId} {args : Array Value} {below : List Frame} {meth : Method} {c : Code} {G : fm_G} (C0 : fm_C p s m args meth c G (.code y_AP_count b_AP_count 4 (some .long)) "AllocationProfiler" b_AP_count 4 (some .long)) (C1 : fx_C l s c G) {v : Int64 ⊕ String} {M' : fm_M}  {M : fm_M} {H : Heap} {locs : List Loc} (hP : kP G M H) (hS : kS G s H locs) {ls : Array Slot} (hl : lv_has ls 4 []) (h : j_AP_count_23  M = some (v, M')) : W p l e (fx_rm 7 111 (xoJ v)) s m args below meth c H locs 0 0 (vx_MQ below (fx_Q G (xoJ v) M') (fx_X G (xoJ v) M') args s (fx_c (xoJ v)) (fx_s (xoJ v)) (fm_A G.2.2)) (F0 m 23 ls []) := by
  have hx := C0.1
  have hb := C0.2.1
  have hown := C0.2.2.2.2.1
  have hts := C0.2.2.2.2.2.1
  unfold j_AP_count_23 at h
  cases h
  exact x_throw C0 C1 T_IllegalArgumentException (text := "no such what") (by decide) hP hS hl.1 d_AP_count_23 d_AP_count_26 d_AP_count_27 d_AP_count_29 d_AP_count_32 (Nat.le_of_ble_eq_true rfl) (Nat.le_of_ble_eq_true rfl) (Nat.le_refl 1) (Nat.le_refl 6)
set_option maxHeartbeats 4000000 in
set_option maxRecDepth 100000 in
theorem w_AP_count_53 {p : Program} {l : Launch} {e : Env} {s : State} {m : MethodId} {args : Array Value} {below : List Frame} {meth : Method} {c : Code} {G : fm_G} (C0 : fm_C p s m args meth c G (.code y_AP_count b_AP_count 4 (some .long)) "AllocationProfiler" b_AP_count 4 (some .long)) (C1 : fx_C l s c G) {v : Int64 ⊕ String} {M' : fm_M} (x0 : Nat) (x1 : Int32) (x2 : Int32) (x3 : Int32) {M : fm_M} {H : Heap} {locs : List Loc} (hP : kP G M H) (hS : kS G s H locs) {ls : Array Slot} (hl : lv_has ls 4 [(0, .ref (G.2.2 + x0)), (1, .int x1), (2, .int x2), (3, .int x3)]) (h : j_AP_count_53 x0 x1 x2 x3 M = some (v, M')) : W p l e (fx_rm 7 111 (xoJ v)) s m args below meth c H locs 0 0 (vx_MQ below (fx_Q G (xoJ v) M') (fx_X G (xoJ v) M') args s (fx_c (xoJ v)) (fx_s (xoJ v)) (fm_A G.2.2)) (F0 m 53 ls []) := by
  have hx := C0.1
  have hb := C0.2.1
  have hown := C0.2.2.2.2.1
  have hts := C0.2.2.2.2.2.1
  unfold j_AP_count_53 at h
  refine lv_iload_n hx hb d_AP_count_53 rfl (lv_at hl 3 rfl) ?_
  refine lv_if_ne (tgt := 69) hx hb d_AP_count_54 (by decide) (fun c101 => ?_) (fun c101 => ?_)
  · rw [if_neg c101] at h
    refine lv_iload_n hx hb d_AP_count_69 rfl (lv_at hl 3 rfl) ?_
    refine lv_iconst (v := 1) hx hb d_AP_count_70 ic_1 ?_
    refine lv_icmp_ne (tgt := 86) hx hb d_AP_count_71 (by decide) (fun c102 => ?_) (fun c102 => ?_)
    · rw [if_neg c102] at h
      refine lv_aload_n hx hb d_AP_count_86 rfl (lv_at hl 0 rfl) ?_
      obtain ⟨q103, e104, h⟩ := ob h
      refine k_gr C0 F_AP_35 hP e104 d_AP_count_87 ?_
      obtain ⟨q105, e106, h⟩ := ob h
      refine k_gr C0 F_AP_242 hP e106 d_AP_count_90 ?_
      refine lv_iload_n hx hb d_AP_count_93 rfl (lv_at hl 1 rfl) ?_
      obtain ⟨x107, e108, h⟩ := ob h
      refine k_ai C0 hP e108 d_AP_count_94 ?_
      refine lv_i2l hx hb d_AP_count_95 rfl ?_
      cases h
      exact x_ret (r_lret C0 hP hS d_AP_count_96)
    · rw [if_pos c102] at h
      refine lv_aload_n hx hb d_AP_count_74 rfl (lv_at hl 0 rfl) ?_
      obtain ⟨q109, e110, h⟩ := ob h
      refine k_gr C0 F_AP_35 hP e110 d_AP_count_75 ?_
      refine lv_iload_n hx hb d_AP_count_78 rfl (lv_at hl 1 rfl) ?_
      refine lv_iload_n hx hb d_AP_count_79 rfl (lv_at hl 2 rfl) ?_
      obtain ⟨_, e111, h⟩ := ob h
      obtain ⟨x114, M112, e113, h⟩ := ob2 h
      refine k_cV C0 L_AP_239 (As := [.int x1, .int x2]) (c_Ledger_bytesOf l G q109 x1 x2 e113) ⟨rfl, rfl⟩ ⟨Nat.le_of_ble_eq_true rfl, Nat.le_of_ble_eq_true rfl⟩ hP hS (ck_of e111) ly_Ledger rfl hl.1 rfl (Nat.le_of_ble_eq_true rfl) d_AP_count_80 ⟨Nat.zero_le _, Nat.zero_le _⟩ (fun H locs hP hS => ?_)
      refine lv_goto (tgt := 96) hx hb d_AP_count_83 (by decide) ?_
      cases h
      exact x_ret (r_lret C0 hP hS d_AP_count_96)
  · rw [if_pos c101] at h
    refine lv_aload_n hx hb d_AP_count_57 rfl (lv_at hl 0 rfl) ?_
    obtain ⟨q115, e116, h⟩ := ob h
    refine k_gr C0 F_AP_35 hP e116 d_AP_count_58 ?_
    refine lv_iload_n hx hb d_AP_count_61 rfl (lv_at hl 1 rfl) ?_
    refine lv_iload_n hx hb d_AP_count_62 rfl (lv_at hl 2 rfl) ?_
    obtain ⟨_, e117, h⟩ := ob h
    obtain ⟨x120, M118, e119, h⟩ := ob2 h
    refine k_cV C0 L_AP_235 (As := [.int x1, .int x2]) (c_Ledger_objectsOf l G q115 x1 x2 e119) ⟨rfl, rfl⟩ ⟨Nat.le_of_ble_eq_true rfl, Nat.le_of_ble_eq_true rfl⟩ hP hS (ck_of e117) ly_Ledger rfl hl.1 rfl (Nat.le_of_ble_eq_true rfl) d_AP_count_63 ⟨Nat.zero_le _, Nat.zero_le _⟩ (fun H locs hP hS => ?_)
    refine lv_goto (tgt := 96) hx hb d_AP_count_66 (by decide) ?_
    cases h
    exact x_ret (r_lret C0 hP hS d_AP_count_96)
set_option maxHeartbeats 4000000 in
set_option maxRecDepth 100000 in
theorem w_AP_count_14 {p : Program} {l : Launch} {e : Env} {s : State} {m : MethodId} {args : Array Value} {below : List Frame} {meth : Method} {c : Code} {G : fm_G} (C0 : fm_C p s m args meth c G (.code y_AP_count b_AP_count 4 (some .long)) "AllocationProfiler" b_AP_count 4 (some .long)) (C1 : fx_C l s c G) {v : Int64 ⊕ String} {M' : fm_M} (x0 : Nat) (x1 : Int32) (x2 : Int32) (x3 : Int32) {M : fm_M} {H : Heap} {locs : List Loc} (hP : kP G M H) (hS : kS G s H locs) {ls : Array Slot} (hl : lv_has ls 4 [(0, .ref (G.2.2 + x0)), (1, .int x1), (2, .int x2), (3, .int x3)]) (h : j_AP_count_14 x0 x1 x2 x3 M = some (v, M')) : W p l e (fx_rm 7 111 (xoJ v)) s m args below meth c H locs 0 0 (vx_MQ below (fx_Q G (xoJ v) M') (fx_X G (xoJ v) M') args s (fx_c (xoJ v)) (fx_s (xoJ v)) (fm_A G.2.2)) (F0 m 14 ls []) := by
  have hx := C0.1
  have hb := C0.2.1
  have hown := C0.2.2.2.2.1
  have hts := C0.2.2.2.2.2.1
  unfold j_AP_count_14 at h
  refine lv_iload_n hx hb d_AP_count_14 rfl (lv_at hl 3 rfl) ?_
  refine lv_if_lt (tgt := 23) hx hb d_AP_count_15 (by decide) (fun c121 => ?_) (fun c121 => ?_)
  · rw [if_pos c121] at h
    exact w_AP_count_23 C0 C1 hP hS (lv_sub hl [] rfl) h
  · rw [if_neg c121] at h
    refine lv_iload_n hx hb d_AP_count_18 rfl (lv_at hl 3 rfl) ?_
    refine lv_iconst (v := 2) hx hb d_AP_count_19 ic_2 ?_
    refine lv_icmp_le (tgt := 33) hx hb d_AP_count_20 (by decide) (fun c122 => ?_) (fun c122 => ?_)
    · rw [if_pos c122] at h
      refine lv_iload_n hx hb d_AP_count_33 rfl (lv_at hl 3 rfl) ?_
      refine lv_iconst (v := 2) hx hb d_AP_count_34 ic_2 ?_
      refine lv_icmp_ne (tgt := 53) hx hb d_AP_count_35 (by decide) (fun c123 => ?_) (fun c123 => ?_)
      · rw [if_neg c123] at h
        exact w_AP_count_53 C0 C1 x0 x1 x2 x3 hP hS (lv_sub hl [0, 1, 2, 3] rfl) h
      · rw [if_pos c123] at h
        refine lv_iload_n hx hb d_AP_count_38 rfl (lv_at hl 2 rfl) ?_
        refine lv_iconst (v := (-1)) hx hb d_AP_count_39 ic_m1 ?_
        refine lv_icmp_eq (tgt := 53) hx hb d_AP_count_40 (by decide) (fun c124 => ?_) (fun c124 => ?_)
        · rw [if_pos c124] at h
          exact w_AP_count_53 C0 C1 x0 x1 x2 x3 hP hS (lv_sub hl [0, 1, 2, 3] rfl) h
        · rw [if_neg c124] at h
          cases h
          exact x_throw C0 C1 T_NoSuchElementException (text := "samples are not told by threads") (by decide) hP hS hl.1 d_AP_count_43 d_AP_count_46 d_AP_count_47 d_AP_count_49 d_AP_count_52 (Nat.le_of_ble_eq_true rfl) (Nat.le_of_ble_eq_true rfl) (Nat.le_refl 1) (Nat.le_refl 6)
    · rw [if_neg c122] at h
      exact w_AP_count_23 C0 C1 hP hS (lv_sub hl [] rfl) h
set_option maxHeartbeats 4000000 in
set_option maxRecDepth 100000 in
theorem c_AP_count (l : Launch) (hst : l.stackTraces = false) (G : fm_G) (x0 : Nat) (x1 : Int32) (x2 : Int32) (x3 : Int32) {v : Int64 ⊕ String} {M M' : fm_M} (h : f_AP_count x0 x1 x2 x3 M = some (v, M')) : kxMet l y_AP_count b_AP_count 4 (some .long) 7 111 G M [.ref (G.2.2 + x0), .int x1, .int x2, .int x3] (xoJ v) M' := by
  refine x_met hst (by decide) rfl (Nat.le_of_ble_eq_true rfl) (fun p e s m args below meth c C0 C1 hP ls hl => ?_)
  have hx := C0.1
  have hb := C0.2.1
  have hown := C0.2.2.2.2.1
  have hts := C0.2.2.2.2.2.1
  have hl : lv_has ls 4 [(0, .ref (G.2.2 + x0)), (1, .int x1), (2, .int x2), (3, .int x3)] := hl
  have hS : va_S (fm_A G.2.2) s.heap s.heap [] := va_S.rf
  unfold f_AP_count at h
  refine lv_aload_n hx hb d_AP_count_0 rfl (lv_at hl 0 rfl) ?_
  refine lv_iload_n hx hb d_AP_count_1 rfl (lv_at hl 1 rfl) ?_
  obtain ⟨_, e125, h⟩ := ob h
  rcases ob3 h with ⟨_, M126, e127, h⟩ | ⟨E9, e127, rfl⟩
  rotate_left
  · exact x_thrown (x_runV (o := .inr E9) C0 C1.2.1 L_AP_230 (As := [.int x1]) (c_AP_needSite (v := .inr E9) l C1.1 G x0 x1 e127) ⟨Nat.le_of_ble_eq_true rfl, Nat.le_of_ble_eq_true rfl⟩ hP hS (ck_of e125) ly_AP rfl hl.1 rfl (Nat.le_of_ble_eq_true rfl) d_AP_count_2 ⟨Nat.le_refl 1, Nat.le_refl 6⟩) hS (fun H locs q9 ce hP hS h1 h2 h3 => x_out C0 C1 hP hS h1 h2 h3)
  refine x_backv (x_runV (o := .inl none) C0 C1.2.1 L_AP_230 (As := [.int x1]) (c_AP_needSite (v := .inl ()) l C1.1 G x0 x1 e127) ⟨Nat.le_of_ble_eq_true rfl, Nat.le_of_ble_eq_true rfl⟩ hP hS (ck_of e125) ly_AP rfl hl.1 rfl (Nat.le_of_ble_eq_true rfl) d_AP_count_2 ⟨Nat.zero_le _, Nat.zero_le _⟩) hS (fun H locs hP hS => ?_)
  refine lv_iload_n hx hb d_AP_count_5 rfl (lv_at hl 2 rfl) ?_
  refine lv_iconst (v := (-1)) hx hb d_AP_count_6 ic_m1 ?_
  refine lv_icmp_eq (tgt := 14) hx hb d_AP_count_7 (by decide) (fun c128 => ?_) (fun c128 => ?_)
  · rw [if_pos c128] at h
    exact w_AP_count_14 C0 C1 x0 x1 x2 x3 hP hS (lv_sub hl [0, 1, 2, 3] rfl) h
  · rw [if_neg c128] at h
    refine lv_iload_n hx hb d_AP_count_10 rfl (lv_at hl 2 rfl) ?_
    rcases ob3 h with ⟨_, M129, e130, h⟩ | ⟨E9, e130, rfl⟩
    rotate_left
    · exact x_thrown (x_runS (o := .inr E9) C0 C1.2.1 L_AP_191 (As := [.int x2]) (c_AP_needThread (v := .inr E9) l C1.1 G x2 e130) ⟨Nat.le_of_ble_eq_true rfl, Nat.le_of_ble_eq_true rfl⟩ hP hS rfl hl.1 rfl (Nat.le_of_ble_eq_true rfl) d_AP_count_11 ⟨Nat.le_refl 1, Nat.le_refl 6⟩) hS (fun H locs q9 ce hP hS h1 h2 h3 => x_out C0 C1 hP hS h1 h2 h3)
    refine x_backv (x_runS (o := .inl none) C0 C1.2.1 L_AP_191 (As := [.int x2]) (c_AP_needThread (v := .inl ()) l C1.1 G x2 e130) ⟨Nat.le_of_ble_eq_true rfl, Nat.le_of_ble_eq_true rfl⟩ hP hS rfl hl.1 rfl (Nat.le_of_ble_eq_true rfl) d_AP_count_11 ⟨Nat.zero_le _, Nat.zero_le _⟩) hS (fun H locs hP hS => ?_)
    exact w_AP_count_14 C0 C1 x0 x1 x2 x3 hP hS (lv_sub hl [0, 1, 2, 3] rfl) h
/-! AllocationProfiler.entry -/
theorem d_AP_entry_0 : decode b_AP_entry 0 = .ok (.iload_n 2, 1) := by decide +kernel
theorem d_AP_entry_1 : decode b_AP_entry 1 = .ok (.ifCond .lt 8, 3) := by decide +kernel
theorem d_AP_entry_4 : decode b_AP_entry 4 = .ok (.iload_n 2, 1) := by decide +kernel
theorem d_AP_entry_5 : decode b_AP_entry 5 = .ok (.iconst 2, 1) := by decide +kernel
theorem d_AP_entry_6 : decode b_AP_entry 6 = .ok (.if_icmp .le 13, 3) := by decide +kernel
theorem d_AP_entry_9 : decode b_AP_entry 9 = .ok (.new 69, 3) := by decide +kernel
theorem d_AP_entry_12 : decode b_AP_entry 12 = .ok (.dup, 1) := by decide +kernel
theorem d_AP_entry_13 : decode b_AP_entry 13 = .ok (.ldc 166, 2) := by decide +kernel
theorem d_AP_entry_15 : decode b_AP_entry 15 = .ok (.invokespecial 73, 3) := by decide +kernel
theorem d_AP_entry_18 : decode b_AP_entry 18 = .ok (.athrow, 1) := by decide +kernel
theorem d_AP_entry_19 : decode b_AP_entry 19 = .ok (.iload_n 1, 1) := by decide +kernel
theorem d_AP_entry_20 : decode b_AP_entry 20 = .ok (.ifCond .lt 14, 3) := by decide +kernel
theorem d_AP_entry_23 : decode b_AP_entry 23 = .ok (.iload_n 1, 1) := by decide +kernel
theorem d_AP_entry_24 : decode b_AP_entry 24 = .ok (.aload_n 0, 1) := by decide +kernel
theorem d_AP_entry_25 : decode b_AP_entry 25 = .ok (.getfield 35, 3) := by decide +kernel
theorem d_AP_entry_28 : decode b_AP_entry 28 = .ok (.getfield 245, 3) := by decide +kernel
theorem d_AP_entry_31 : decode b_AP_entry 31 = .ok (.if_icmp .lt 13, 3) := by decide +kernel
theorem d_AP_entry_34 : decode b_AP_entry 34 = .ok (.new 172, 3) := by decide +kernel
theorem d_AP_entry_37 : decode b_AP_entry 37 = .ok (.dup, 1) := by decide +kernel
theorem d_AP_entry_38 : decode b_AP_entry 38 = .ok (.ldc 248, 2) := by decide +kernel
theorem d_AP_entry_40 : decode b_AP_entry 40 = .ok (.invokespecial 176, 3) := by decide +kernel
theorem d_AP_entry_43 : decode b_AP_entry 43 = .ok (.athrow, 1) := by decide +kernel
theorem d_AP_entry_44 : decode b_AP_entry 44 = .ok (.iload_n 2, 1) := by decide +kernel
theorem d_AP_entry_45 : decode b_AP_entry 45 = .ok (.ifCond .ne 15, 3) := by decide +kernel
theorem d_AP_entry_48 : decode b_AP_entry 48 = .ok (.aload_n 0, 1) := by decide +kernel
theorem d_AP_entry_49 : decode b_AP_entry 49 = .ok (.getfield 35, 3) := by decide +kernel
theorem d_AP_entry_52 : decode b_AP_entry 52 = .ok (.getfield 250, 3) := by decide +kernel
theorem d_AP_entry_55 : decode b_AP_entry 55 = .ok (.iload_n 1, 1) := by decide +kernel
theorem d_AP_entry_56 : decode b_AP_entry 56 = .ok (.iaload, 1) := by decide +kernel
theorem d_AP_entry_57 : decode b_AP_entry 57 = .ok (.goto 29, 3) := by decide +kernel
theorem d_AP_entry_60 : decode b_AP_entry 60 = .ok (.iload_n 2, 1) := by decide +kernel
theorem d_AP_entry_61 : decode b_AP_entry 61 = .ok (.iconst 1, 1) := by decide +kernel
theorem d_AP_entry_62 : decode b_AP_entry 62 = .ok (.if_icmp .ne 15, 3) := by decide +kernel
theorem d_AP_entry_65 : decode b_AP_entry 65 = .ok (.aload_n 0, 1) := by decide +kernel
theorem d_AP_entry_66 : decode b_AP_entry 66 = .ok (.getfield 35, 3) := by decide +kernel
theorem d_AP_entry_69 : decode b_AP_entry 69 = .ok (.getfield 253, 3) := by decide +kernel
theorem d_AP_entry_72 : decode b_AP_entry 72 = .ok (.iload_n 1, 1) := by decide +kernel
theorem d_AP_entry_73 : decode b_AP_entry 73 = .ok (.iaload, 1) := by decide +kernel
theorem d_AP_entry_74 : decode b_AP_entry 74 = .ok (.goto 12, 3) := by decide +kernel
theorem d_AP_entry_77 : decode b_AP_entry 77 = .ok (.aload_n 0, 1) := by decide +kernel
theorem d_AP_entry_78 : decode b_AP_entry 78 = .ok (.getfield 35, 3) := by decide +kernel
theorem d_AP_entry_81 : decode b_AP_entry 81 = .ok (.getfield 256, 3) := by decide +kernel
theorem d_AP_entry_84 : decode b_AP_entry 84 = .ok (.iload_n 1, 1) := by decide +kernel
theorem d_AP_entry_85 : decode b_AP_entry 85 = .ok (.iaload, 1) := by decide +kernel
theorem d_AP_entry_86 : decode b_AP_entry 86 = .ok (.ireturn, 1) := by decide +kernel
def j_AP_entry_9  (M : fm_M) : Option ((Int32 ⊕ String) × fm_M) :=
  some (.inr "java/lang/IllegalArgumentException", M)
def j_AP_entry_34  (M : fm_M) : Option ((Int32 ⊕ String) × fm_M) :=
  some (.inr "java/lang/IndexOutOfBoundsException", M)
def f_AP_entry (x0 : Nat) (x1 : Int32) (x2 : Int32) (M : fm_M) : Option ((Int32 ⊕ String) × fm_M) :=
  if x2 < 0 then
    j_AP_entry_9 M
  else
    if x2 ≤ 2 then
      if x1 < 0 then
        j_AP_entry_34 M
      else
        (gr x0 9 4).bind fun q104 =>
        (gi q104 4 10 M).bind fun x106 =>
        if x1 < x106 then
          if x2 = 0 then
            (gr x0 9 4).bind fun q123 =>
            (gr q123 4 6).bind fun q125 =>
            (ai q125 x1 M).bind fun x127 =>
            some (.inl x127, M)
          else
            if x2 = 1 then
              (gr x0 9 4).bind fun q117 =>
              (gr q117 4 7).bind fun q119 =>
              (ai q119 x1 M).bind fun x121 =>
              some (.inl x121, M)
            else
              (gr x0 9 4).bind fun q111 =>
              (gr q111 4 8).bind fun q113 =>
              (ai q113 x1 M).bind fun x115 =>
              some (.inl x115, M)
        else
          j_AP_entry_34 M
    else
      j_AP_entry_9 M
set_option maxHeartbeats 4000000 in
set_option maxRecDepth 100000 in
theorem w_AP_entry_9 {p : Program} {l : Launch} {e : Env} {s : State} {m : MethodId} {args : Array Value} {below : List Frame} {meth : Method} {c : Code} {G : fm_G} (C0 : fm_C p s m args meth c G (.code y_AP_entry b_AP_entry 3 (some .int)) "AllocationProfiler" b_AP_entry 3 (some .int)) (C1 : fx_C l s c G) {v : Int32 ⊕ String} {M' : fm_M}  {M : fm_M} {H : Heap} {locs : List Loc} (hP : kP G M H) (hS : kS G s H locs) {ls : Array Slot} (hl : lv_has ls 3 []) (h : j_AP_entry_9  M = some (v, M')) : W p l e (fx_rm 6 90 (xoI v)) s m args below meth c H locs 0 0 (vx_MQ below (fx_Q G (xoI v) M') (fx_X G (xoI v) M') args s (fx_c (xoI v)) (fx_s (xoI v)) (fm_A G.2.2)) (F0 m 9 ls []) := by
  have hx := C0.1
  have hb := C0.2.1
  have hown := C0.2.2.2.2.1
  have hts := C0.2.2.2.2.2.1
  unfold j_AP_entry_9 at h
  cases h
  exact x_throw C0 C1 T_IllegalArgumentException (text := "no such what") (by decide) hP hS hl.1 d_AP_entry_9 d_AP_entry_12 d_AP_entry_13 d_AP_entry_15 d_AP_entry_18 (Nat.le_of_ble_eq_true rfl) (Nat.le_of_ble_eq_true rfl) (Nat.le_refl 1) (Nat.le_refl 6)
set_option maxHeartbeats 4000000 in
set_option maxRecDepth 100000 in
theorem w_AP_entry_34 {p : Program} {l : Launch} {e : Env} {s : State} {m : MethodId} {args : Array Value} {below : List Frame} {meth : Method} {c : Code} {G : fm_G} (C0 : fm_C p s m args meth c G (.code y_AP_entry b_AP_entry 3 (some .int)) "AllocationProfiler" b_AP_entry 3 (some .int)) (C1 : fx_C l s c G) {v : Int32 ⊕ String} {M' : fm_M}  {M : fm_M} {H : Heap} {locs : List Loc} (hP : kP G M H) (hS : kS G s H locs) {ls : Array Slot} (hl : lv_has ls 3 []) (h : j_AP_entry_34  M = some (v, M')) : W p l e (fx_rm 6 90 (xoI v)) s m args below meth c H locs 0 0 (vx_MQ below (fx_Q G (xoI v) M') (fx_X G (xoI v) M') args s (fx_c (xoI v)) (fx_s (xoI v)) (fm_A G.2.2)) (F0 m 34 ls []) := by
  have hx := C0.1
  have hb := C0.2.1
  have hown := C0.2.2.2.2.1
  have hts := C0.2.2.2.2.2.1
  unfold j_AP_entry_34 at h
  cases h
  exact x_throw C0 C1 T_IndexOutOfBoundsException (text := "no such entry") (by decide) hP hS hl.1 d_AP_entry_34 d_AP_entry_37 d_AP_entry_38 d_AP_entry_40 d_AP_entry_43 (Nat.le_of_ble_eq_true rfl) (Nat.le_of_ble_eq_true rfl) (Nat.le_refl 1) (Nat.le_refl 6)
set_option maxHeartbeats 4000000 in
set_option maxRecDepth 100000 in
theorem c_AP_entry (l : Launch) (hst : l.stackTraces = false) (G : fm_G) (x0 : Nat) (x1 : Int32) (x2 : Int32) {v : Int32 ⊕ String} {M M' : fm_M} (h : f_AP_entry x0 x1 x2 M = some (v, M')) : kxMet l y_AP_entry b_AP_entry 3 (some .int) 6 90 G M [.ref (G.2.2 + x0), .int x1, .int x2] (xoI v) M' := by
  refine x_met hst (by decide) rfl (Nat.le_of_ble_eq_true rfl) (fun p e s m args below meth c C0 C1 hP ls hl => ?_)
  have hx := C0.1
  have hb := C0.2.1
  have hown := C0.2.2.2.2.1
  have hts := C0.2.2.2.2.2.1
  have hl : lv_has ls 3 [(0, .ref (G.2.2 + x0)), (1, .int x1), (2, .int x2)] := hl
  have hS : va_S (fm_A G.2.2) s.heap s.heap [] := va_S.rf
  unfold f_AP_entry at h
  refine lv_iload_n hx hb d_AP_entry_0 rfl (lv_at hl 2 rfl) ?_
  refine lv_if_lt (tgt := 9) hx hb d_AP_entry_1 (by decide) (fun c101 => ?_) (fun c101 => ?_)
  · rw [if_pos c101] at h
    exact w_AP_entry_9 C0 C1 hP hS (lv_sub hl [] rfl) h
  · rw [if_neg c101] at h
    refine lv_iload_n hx hb d_AP_entry_4 rfl (lv_at hl 2 rfl) ?_
    refine lv_iconst (v := 2) hx hb d_AP_entry_5 ic_2 ?_
    refine lv_icmp_le (tgt := 19) hx hb d_AP_entry_6 (by decide) (fun c102 => ?_) (fun c102 => ?_)
    · rw [if_pos c102] at h
      refine lv_iload_n hx hb d_AP_entry_19 rfl (lv_at hl 1 rfl) ?_
      refine lv_if_lt (tgt := 34) hx hb d_AP_entry_20 (by decide) (fun c103 => ?_) (fun c103 => ?_)
      · rw [if_pos c103] at h
        exact w_AP_entry_34 C0 C1 hP hS (lv_sub hl [] rfl) h
      · rw [if_neg c103] at h
        refine lv_iload_n hx hb d_AP_entry_23 rfl (lv_at hl 1 rfl) ?_
        refine lv_aload_n hx hb d_AP_entry_24 rfl (lv_at hl 0 rfl) ?_
        obtain ⟨q104, e105, h⟩ := ob h
        refine k_gr C0 F_AP_35 hP e105 d_AP_entry_25 ?_
        obtain ⟨x106, e107, h⟩ := ob h
        refine k_gi C0 F_AP_245 ik_4_10 hP e107 d_AP_entry_28 ?_
        refine lv_icmp_lt (tgt := 44) hx hb d_AP_entry_31 (by decide) (fun c108 => ?_) (fun c108 => ?_)
        · rw [if_pos c108] at h
          refine lv_iload_n hx hb d_AP_entry_44 rfl (lv_at hl 2 rfl) ?_
          refine lv_if_ne (tgt := 60) hx hb d_AP_entry_45 (by decide) (fun c109 => ?_) (fun c109 => ?_)
          · rw [if_neg c109] at h
            refine lv_iload_n hx hb d_AP_entry_60 rfl (lv_at hl 2 rfl) ?_
            refine lv_iconst (v := 1) hx hb d_AP_entry_61 ic_1 ?_
            refine lv_icmp_ne (tgt := 77) hx hb d_AP_entry_62 (by decide) (fun c110 => ?_) (fun c110 => ?_)
            · rw [if_neg c110] at h
              refine lv_aload_n hx hb d_AP_entry_77 rfl (lv_at hl 0 rfl) ?_
              obtain ⟨q111, e112, h⟩ := ob h
              refine k_gr C0 F_AP_35 hP e112 d_AP_entry_78 ?_
              obtain ⟨q113, e114, h⟩ := ob h
              refine k_gr C0 F_AP_256 hP e114 d_AP_entry_81 ?_
              refine lv_iload_n hx hb d_AP_entry_84 rfl (lv_at hl 1 rfl) ?_
              obtain ⟨x115, e116, h⟩ := ob h
              refine k_ai C0 hP e116 d_AP_entry_85 ?_
              cases h
              exact x_ret (r_iret C0 hP hS d_AP_entry_86)
            · rw [if_pos c110] at h
              refine lv_aload_n hx hb d_AP_entry_65 rfl (lv_at hl 0 rfl) ?_
              obtain ⟨q117, e118, h⟩ := ob h
              refine k_gr C0 F_AP_35 hP e118 d_AP_entry_66 ?_
              obtain ⟨q119, e120, h⟩ := ob h
              refine k_gr C0 F_AP_253 hP e120 d_AP_entry_69 ?_
              refine lv_iload_n hx hb d_AP_entry_72 rfl (lv_at hl 1 rfl) ?_
              obtain ⟨x121, e122, h⟩ := ob h
              refine k_ai C0 hP e122 d_AP_entry_73 ?_
              refine lv_goto (tgt := 86) hx hb d_AP_entry_74 (by decide) ?_
              cases h
              exact x_ret (r_iret C0 hP hS d_AP_entry_86)
          · rw [if_pos c109] at h
            refine lv_aload_n hx hb d_AP_entry_48 rfl (lv_at hl 0 rfl) ?_
            obtain ⟨q123, e124, h⟩ := ob h
            refine k_gr C0 F_AP_35 hP e124 d_AP_entry_49 ?_
            obtain ⟨q125, e126, h⟩ := ob h
            refine k_gr C0 F_AP_250 hP e126 d_AP_entry_52 ?_
            refine lv_iload_n hx hb d_AP_entry_55 rfl (lv_at hl 1 rfl) ?_
            obtain ⟨x127, e128, h⟩ := ob h
            refine k_ai C0 hP e128 d_AP_entry_56 ?_
            refine lv_goto (tgt := 86) hx hb d_AP_entry_57 (by decide) ?_
            cases h
            exact x_ret (r_iret C0 hP hS d_AP_entry_86)
        · rw [if_neg c108] at h
          exact w_AP_entry_34 C0 C1 hP hS (lv_sub hl [] rfl) h
    · rw [if_neg c102] at h
      exact w_AP_entry_9 C0 C1 hP hS (lv_sub hl [] rfl) h
/-! AllocationProfiler.rate -/
theorem d_AP_rate_0 : decode b_AP_rate 0 = .ok (.aload_n 0, 1) := by decide +kernel
theorem d_AP_rate_1 : decode b_AP_rate 1 = .ok (.iload_n 1, 1) := by decide +kernel
theorem d_AP_rate_2 : decode b_AP_rate 2 = .ok (.invokevirtual 230, 3) := by decide +kernel
theorem d_AP_rate_5 : decode b_AP_rate 5 = .ok (.aload_n 0, 1) := by decide +kernel
theorem d_AP_rate_6 : decode b_AP_rate 6 = .ok (.getfield 35, 3) := by decide +kernel
theorem d_AP_rate_9 : decode b_AP_rate 9 = .ok (.getfield 259, 3) := by decide +kernel
theorem d_AP_rate_12 : decode b_AP_rate 12 = .ok (.iload_n 1, 1) := by decide +kernel
theorem d_AP_rate_13 : decode b_AP_rate 13 = .ok (.faload, 1) := by decide +kernel
theorem d_AP_rate_14 : decode b_AP_rate 14 = .ok (.freturn, 1) := by decide +kernel
def f_AP_rate (x0 : Nat) (x1 : Int32) (M : fm_M) : Option ((UInt32 ⊕ String) × fm_M) :=
  (ck x0 9).bind fun _ =>
  xd (f_AP_needSite x0 x1 M) fun _ M102 =>
  (gr x0 9 4).bind fun q104 =>
  (gr q104 4 4).bind fun q106 =>
  (af q106 x1 M102).bind fun x108 =>
  some (.inl x108, M102)
set_option maxHeartbeats 4000000 in
set_option maxRecDepth 100000 in
theorem c_AP_rate (l : Launch) (hst : l.stackTraces = false) (G : fm_G) (x0 : Nat) (x1 : Int32) {v : UInt32 ⊕ String} {M M' : fm_M} (h : f_AP_rate x0 x1 M = some (v, M')) : kxMet l y_AP_rate b_AP_rate 2 (some .float) 7 111 G M [.ref (G.2.2 + x0), .int x1] (xoF v) M' := by
  refine x_met hst (by decide) rfl (Nat.le_of_ble_eq_true rfl) (fun p e s m args below meth c C0 C1 hP ls hl => ?_)
  have hx := C0.1
  have hb := C0.2.1
  have hl : lv_has ls 2 [(0, .ref (G.2.2 + x0)), (1, .int x1)] := hl
  have hS : va_S (fm_A G.2.2) s.heap s.heap [] := va_S.rf
  unfold f_AP_rate at h
  refine lv_aload_n hx hb d_AP_rate_0 rfl (lv_at hl 0 rfl) ?_
  refine lv_iload_n hx hb d_AP_rate_1 rfl (lv_at hl 1 rfl) ?_
  obtain ⟨_, e101, h⟩ := ob h
  rcases ob3 h with ⟨_, M102, e103, h⟩ | ⟨E9, e103, rfl⟩
  rotate_left
  · exact x_thrown (x_runV (o := .inr E9) C0 C1.2.1 L_AP_230 (As := [.int x1]) (c_AP_needSite (v := .inr E9) l C1.1 G x0 x1 e103) ⟨Nat.le_of_ble_eq_true rfl, Nat.le_of_ble_eq_true rfl⟩ hP hS (ck_of e101) ly_AP rfl hl.1 rfl (Nat.le_of_ble_eq_true rfl) d_AP_rate_2 ⟨Nat.le_refl 1, Nat.le_refl 6⟩) hS (fun H locs q9 ce hP hS h1 h2 h3 => x_out C0 C1 hP hS h1 h2 h3)
  refine x_backv (x_runV (o := .inl none) C0 C1.2.1 L_AP_230 (As := [.int x1]) (c_AP_needSite (v := .inl ()) l C1.1 G x0 x1 e103) ⟨Nat.le_of_ble_eq_true rfl, Nat.le_of_ble_eq_true rfl⟩ hP hS (ck_of e101) ly_AP rfl hl.1 rfl (Nat.le_of_ble_eq_true rfl) d_AP_rate_2 ⟨Nat.zero_le _, Nat.zero_le _⟩) hS (fun H locs hP hS => ?_)
  refine lv_aload_n hx hb d_AP_rate_5 rfl (lv_at hl 0 rfl) ?_
  obtain ⟨q104, e105, h⟩ := ob h
  refine k_gr C0 F_AP_35 hP e105 d_AP_rate_6 ?_
  obtain ⟨q106, e107, h⟩ := ob h
  refine k_gr C0 F_AP_259 hP e107 d_AP_rate_9 ?_
  refine lv_iload_n hx hb d_AP_rate_12 rfl (lv_at hl 1 rfl) ?_
  obtain ⟨x108, e109, h⟩ := ob h
  refine k_af C0 hP e109 d_AP_rate_13 ?_
  cases h
  exact x_ret (r_fret C0 hP hS d_AP_rate_14)
/-! AllocationProfiler.share -/
theorem d_AP_share_0 : decode b_AP_share 0 = .ok (.aload_n 0, 1) := by decide +kernel
theorem d_AP_share_1 : decode b_AP_share 1 = .ok (.iload_n 1, 1) := by decide +kernel
theorem d_AP_share_2 : decode b_AP_share 2 = .ok (.invokevirtual 230, 3) := by decide +kernel
theorem d_AP_share_5 : decode b_AP_share 5 = .ok (.aload_n 0, 1) := by decide +kernel
theorem d_AP_share_6 : decode b_AP_share 6 = .ok (.getfield 35, 3) := by decide +kernel
theorem d_AP_share_9 : decode b_AP_share 9 = .ok (.iload_n 1, 1) := by decide +kernel
theorem d_AP_share_10 : decode b_AP_share 10 = .ok (.invokevirtual 263, 3) := by decide +kernel
theorem d_AP_share_13 : decode b_AP_share 13 = .ok (.freturn, 1) := by decide +kernel
def f_AP_share (x0 : Nat) (x1 : Int32) (M : fm_M) : Option ((UInt32 ⊕ String) × fm_M) :=
  (ck x0 9).bind fun _ =>
  xd (f_AP_needSite x0 x1 M) fun _ M102 =>
  (gr x0 9 4).bind fun q104 =>
  (ck q104 4).bind fun _ =>
  bd (f_Ledger_shareOf q104 x1 M102) fun x109 M107 =>
  some (.inl x109, M107)
set_option maxHeartbeats 4000000 in
set_option maxRecDepth 100000 in
theorem c_AP_share (l : Launch) (hst : l.stackTraces = false) (G : fm_G) (x0 : Nat) (x1 : Int32) {v : UInt32 ⊕ String} {M M' : fm_M} (h : f_AP_share x0 x1 M = some (v, M')) : kxMet l y_AP_share b_AP_share 2 (some .float) 7 111 G M [.ref (G.2.2 + x0), .int x1] (xoF v) M' := by
  refine x_met hst (by decide) rfl (Nat.le_of_ble_eq_true rfl) (fun p e s m args below meth c C0 C1 hP ls hl => ?_)
  have hx := C0.1
  have hb := C0.2.1
  have hl : lv_has ls 2 [(0, .ref (G.2.2 + x0)), (1, .int x1)] := hl
  have hS : va_S (fm_A G.2.2) s.heap s.heap [] := va_S.rf
  unfold f_AP_share at h
  refine lv_aload_n hx hb d_AP_share_0 rfl (lv_at hl 0 rfl) ?_
  refine lv_iload_n hx hb d_AP_share_1 rfl (lv_at hl 1 rfl) ?_
  obtain ⟨_, e101, h⟩ := ob h
  rcases ob3 h with ⟨_, M102, e103, h⟩ | ⟨E9, e103, rfl⟩
  rotate_left
  · exact x_thrown (x_runV (o := .inr E9) C0 C1.2.1 L_AP_230 (As := [.int x1]) (c_AP_needSite (v := .inr E9) l C1.1 G x0 x1 e103) ⟨Nat.le_of_ble_eq_true rfl, Nat.le_of_ble_eq_true rfl⟩ hP hS (ck_of e101) ly_AP rfl hl.1 rfl (Nat.le_of_ble_eq_true rfl) d_AP_share_2 ⟨Nat.le_refl 1, Nat.le_refl 6⟩) hS (fun H locs q9 ce hP hS h1 h2 h3 => x_out C0 C1 hP hS h1 h2 h3)
  refine x_backv (x_runV (o := .inl none) C0 C1.2.1 L_AP_230 (As := [.int x1]) (c_AP_needSite (v := .inl ()) l C1.1 G x0 x1 e103) ⟨Nat.le_of_ble_eq_true rfl, Nat.le_of_ble_eq_true rfl⟩ hP hS (ck_of e101) ly_AP rfl hl.1 rfl (Nat.le_of_ble_eq_true rfl) d_AP_share_2 ⟨Nat.zero_le _, Nat.zero_le _⟩) hS (fun H locs hP hS => ?_)
  refine lv_aload_n hx hb d_AP_share_5 rfl (lv_at hl 0 rfl) ?_
  obtain ⟨q104, e105, h⟩ := ob h
  refine k_gr C0 F_AP_35 hP e105 d_AP_share_6 ?_
  refine lv_iload_n hx hb d_AP_share_9 rfl (lv_at hl 1 rfl) ?_
  obtain ⟨_, e106, h⟩ := ob h
  obtain ⟨x109, M107, e108, h⟩ := ob2 h
  refine k_cV C0 L_AP_263 (As := [.int x1]) (c_Ledger_shareOf l G q104 x1 e108) ⟨rfl, rfl⟩ ⟨Nat.le_of_ble_eq_true rfl, Nat.le_of_ble_eq_true rfl⟩ hP hS (ck_of e106) ly_Ledger rfl hl.1 rfl (Nat.le_of_ble_eq_true rfl) d_AP_share_10 ⟨Nat.zero_le _, Nat.zero_le _⟩ (fun H locs hP hS => ?_)
  cases h
  exact x_ret (r_fret C0 hP hS d_AP_share_13)
/-! AllocationProfiler.estimate -/
theorem d_AP_estimate_0 : decode b_AP_estimate 0 = .ok (.aload_n 0, 1) := by decide +kernel
theorem d_AP_estimate_1 : decode b_AP_estimate 1 = .ok (.iload_n 1, 1) := by decide +kernel
theorem d_AP_estimate_2 : decode b_AP_estimate 2 = .ok (.invokevirtual 230, 3) := by decide +kernel
theorem d_AP_estimate_5 : decode b_AP_estimate 5 = .ok (.aload_n 0, 1) := by decide +kernel
theorem d_AP_estimate_6 : decode b_AP_estimate 6 = .ok (.getfield 35, 3) := by decide +kernel
theorem d_AP_estimate_9 : decode b_AP_estimate 9 = .ok (.iload_n 1, 1) := by decide +kernel
theorem d_AP_estimate_10 : decode b_AP_estimate 10 = .ok (.invokevirtual 267, 3) := by decide +kernel
theorem d_AP_estimate_13 : decode b_AP_estimate 13 = .ok (.dreturn, 1) := by decide +kernel
def f_AP_estimate (x0 : Nat) (x1 : Int32) (M : fm_M) : Option ((UInt64 ⊕ String) × fm_M) :=
  (ck x0 9).bind fun _ =>
  xd (f_AP_needSite x0 x1 M) fun _ M102 =>
  (gr x0 9 4).bind fun q104 =>
  (ck q104 4).bind fun _ =>
  bd (f_Ledger_estimateOf q104 x1 M102) fun x109 M107 =>
  some (.inl x109, M107)
set_option maxHeartbeats 4000000 in
set_option maxRecDepth 100000 in
theorem c_AP_estimate (l : Launch) (hst : l.stackTraces = false) (G : fm_G) (x0 : Nat) (x1 : Int32) {v : UInt64 ⊕ String} {M M' : fm_M} (h : f_AP_estimate x0 x1 M = some (v, M')) : kxMet l y_AP_estimate b_AP_estimate 2 (some .double) 7 111 G M [.ref (G.2.2 + x0), .int x1] (xoD v) M' := by
  refine x_met hst (by decide) rfl (Nat.le_of_ble_eq_true rfl) (fun p e s m args below meth c C0 C1 hP ls hl => ?_)
  have hx := C0.1
  have hb := C0.2.1
  have hl : lv_has ls 2 [(0, .ref (G.2.2 + x0)), (1, .int x1)] := hl
  have hS : va_S (fm_A G.2.2) s.heap s.heap [] := va_S.rf
  unfold f_AP_estimate at h
  refine lv_aload_n hx hb d_AP_estimate_0 rfl (lv_at hl 0 rfl) ?_
  refine lv_iload_n hx hb d_AP_estimate_1 rfl (lv_at hl 1 rfl) ?_
  obtain ⟨_, e101, h⟩ := ob h
  rcases ob3 h with ⟨_, M102, e103, h⟩ | ⟨E9, e103, rfl⟩
  rotate_left
  · exact x_thrown (x_runV (o := .inr E9) C0 C1.2.1 L_AP_230 (As := [.int x1]) (c_AP_needSite (v := .inr E9) l C1.1 G x0 x1 e103) ⟨Nat.le_of_ble_eq_true rfl, Nat.le_of_ble_eq_true rfl⟩ hP hS (ck_of e101) ly_AP rfl hl.1 rfl (Nat.le_of_ble_eq_true rfl) d_AP_estimate_2 ⟨Nat.le_refl 1, Nat.le_refl 6⟩) hS (fun H locs q9 ce hP hS h1 h2 h3 => x_out C0 C1 hP hS h1 h2 h3)
  refine x_backv (x_runV (o := .inl none) C0 C1.2.1 L_AP_230 (As := [.int x1]) (c_AP_needSite (v := .inl ()) l C1.1 G x0 x1 e103) ⟨Nat.le_of_ble_eq_true rfl, Nat.le_of_ble_eq_true rfl⟩ hP hS (ck_of e101) ly_AP rfl hl.1 rfl (Nat.le_of_ble_eq_true rfl) d_AP_estimate_2 ⟨Nat.zero_le _, Nat.zero_le _⟩) hS (fun H locs hP hS => ?_)
  refine lv_aload_n hx hb d_AP_estimate_5 rfl (lv_at hl 0 rfl) ?_
  obtain ⟨q104, e105, h⟩ := ob h
  refine k_gr C0 F_AP_35 hP e105 d_AP_estimate_6 ?_
  refine lv_iload_n hx hb d_AP_estimate_9 rfl (lv_at hl 1 rfl) ?_
  obtain ⟨_, e106, h⟩ := ob h
  obtain ⟨x109, M107, e108, h⟩ := ob2 h
  refine k_cV C0 L_AP_267 (As := [.int x1]) (c_Ledger_estimateOf l G q104 x1 e108) ⟨rfl, rfl⟩ ⟨Nat.le_of_ble_eq_true rfl, Nat.le_of_ble_eq_true rfl⟩ hP hS (ck_of e106) ly_Ledger rfl hl.1 rfl (Nat.le_of_ble_eq_true rfl) d_AP_estimate_10 ⟨Nat.zero_le _, Nat.zero_le _⟩ (fun H locs hP hS => ?_)
  cases h
  exact x_ret (r_dret C0 hP hS d_AP_estimate_13)
/-! AllocationProfiler.rounded -/
theorem d_AP_rounded_0 : decode b_AP_rounded 0 = .ok (.aload_n 0, 1) := by decide +kernel
theorem d_AP_rounded_1 : decode b_AP_rounded 1 = .ok (.iload_n 1, 1) := by decide +kernel
theorem d_AP_rounded_2 : decode b_AP_rounded 2 = .ok (.invokevirtual 230, 3) := by decide +kernel
theorem d_AP_rounded_5 : decode b_AP_rounded 5 = .ok (.aload_n 0, 1) := by decide +kernel
theorem d_AP_rounded_6 : decode b_AP_rounded 6 = .ok (.getfield 35, 3) := by decide +kernel
theorem d_AP_rounded_9 : decode b_AP_rounded 9 = .ok (.iload_n 1, 1) := by decide +kernel
theorem d_AP_rounded_10 : decode b_AP_rounded 10 = .ok (.invokevirtual 267, 3) := by decide +kernel
theorem d_AP_rounded_13 : decode b_AP_rounded 13 = .ok (.ldc2_w 271, 3) := by decide +kernel
theorem d_AP_rounded_16 : decode b_AP_rounded 16 = .ok (.dadd, 1) := by decide +kernel
theorem d_AP_rounded_17 : decode b_AP_rounded 17 = .ok (.d2l, 1) := by decide +kernel
theorem d_AP_rounded_18 : decode b_AP_rounded 18 = .ok (.lreturn, 1) := by decide +kernel
def f_AP_rounded (x0 : Nat) (x1 : Int32) (M : fm_M) : Option ((Int64 ⊕ String) × fm_M) :=
  (ck x0 9).bind fun _ =>
  xd (f_AP_needSite x0 x1 M) fun _ M102 =>
  (gr x0 9 4).bind fun q104 =>
  (ck q104 4).bind fun _ =>
  bd (f_Ledger_estimateOf q104 x1 M102) fun x109 M107 =>
  (nn64 (FP.dadd x109 4602678819172646912)).bind fun _ =>
  some (.inl (FP.d2l (FP.dadd x109 4602678819172646912)), M107)
set_option maxHeartbeats 4000000 in
set_option maxRecDepth 100000 in
theorem c_AP_rounded (l : Launch) (hst : l.stackTraces = false) (G : fm_G) (x0 : Nat) (x1 : Int32) {v : Int64 ⊕ String} {M M' : fm_M} (h : f_AP_rounded x0 x1 M = some (v, M')) : kxMet l y_AP_rounded b_AP_rounded 2 (some .long) 7 111 G M [.ref (G.2.2 + x0), .int x1] (xoJ v) M' := by
  refine x_met hst (by decide) rfl (Nat.le_of_ble_eq_true rfl) (fun p e s m args below meth c C0 C1 hP ls hl => ?_)
  have hx := C0.1
  have hb := C0.2.1
  have hown := C0.2.2.2.2.1
  have hts := C0.2.2.2.2.2.1
  have hl : lv_has ls 2 [(0, .ref (G.2.2 + x0)), (1, .int x1)] := hl
  have hS : va_S (fm_A G.2.2) s.heap s.heap [] := va_S.rf
  unfold f_AP_rounded at h
  refine lv_aload_n hx hb d_AP_rounded_0 rfl (lv_at hl 0 rfl) ?_
  refine lv_iload_n hx hb d_AP_rounded_1 rfl (lv_at hl 1 rfl) ?_
  obtain ⟨_, e101, h⟩ := ob h
  rcases ob3 h with ⟨_, M102, e103, h⟩ | ⟨E9, e103, rfl⟩
  rotate_left
  · exact x_thrown (x_runV (o := .inr E9) C0 C1.2.1 L_AP_230 (As := [.int x1]) (c_AP_needSite (v := .inr E9) l C1.1 G x0 x1 e103) ⟨Nat.le_of_ble_eq_true rfl, Nat.le_of_ble_eq_true rfl⟩ hP hS (ck_of e101) ly_AP rfl hl.1 rfl (Nat.le_of_ble_eq_true rfl) d_AP_rounded_2 ⟨Nat.le_refl 1, Nat.le_refl 6⟩) hS (fun H locs q9 ce hP hS h1 h2 h3 => x_out C0 C1 hP hS h1 h2 h3)
  refine x_backv (x_runV (o := .inl none) C0 C1.2.1 L_AP_230 (As := [.int x1]) (c_AP_needSite (v := .inl ()) l C1.1 G x0 x1 e103) ⟨Nat.le_of_ble_eq_true rfl, Nat.le_of_ble_eq_true rfl⟩ hP hS (ck_of e101) ly_AP rfl hl.1 rfl (Nat.le_of_ble_eq_true rfl) d_AP_rounded_2 ⟨Nat.zero_le _, Nat.zero_le _⟩) hS (fun H locs hP hS => ?_)
  refine lv_aload_n hx hb d_AP_rounded_5 rfl (lv_at hl 0 rfl) ?_
  obtain ⟨q104, e105, h⟩ := ob h
  refine k_gr C0 F_AP_35 hP e105 d_AP_rounded_6 ?_
  refine lv_iload_n hx hb d_AP_rounded_9 rfl (lv_at hl 1 rfl) ?_
  obtain ⟨_, e106, h⟩ := ob h
  obtain ⟨x109, M107, e108, h⟩ := ob2 h
  refine k_cV C0 L_AP_267 (As := [.int x1]) (c_Ledger_estimateOf l G q104 x1 e108) ⟨rfl, rfl⟩ ⟨Nat.le_of_ble_eq_true rfl, Nat.le_of_ble_eq_true rfl⟩ hP hS (ck_of e106) ly_Ledger rfl hl.1 rfl (Nat.le_of_ble_eq_true rfl) d_AP_rounded_10 ⟨Nat.zero_le _, Nat.zero_le _⟩ (fun H locs hP hS => ?_)
  refine lv_ldc2d (v := 4602678819172646912) hx hb hown (hts _ (List.mem_cons_of_mem _ (gT_in 970 (by decide +kernel) rfl))) d_AP_rounded_13 ?_
  obtain ⟨_, e110, h⟩ := ob h
  refine lv_dadd hx hb d_AP_rounded_16 (nn64_of e110) ?_
  refine lv_d2l hx hb d_AP_rounded_17 ?_
  cases h
  exact x_ret (r_lret C0 hP hS d_AP_rounded_18)
