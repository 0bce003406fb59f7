/-! the law: call by call -/
def l_step (a0 a1 a2 a3 a4 a5 : Int32) (M : fm_M) : Option fm_M :=
  if (a0 &&& 31) = 0 then l_case0 a1 a2 a3 a4 a5 M else
  if (a0 &&& 31) = 1 then l_case1 a1 M else
  if (a0 &&& 31) = 2 then l_case2 a1 a2 M else
  if (a0 &&& 31) = 3 then l_case3 a1 a2 a3 M else
  if (a0 &&& 31) = 4 then l_case4  M else
  if (a0 &&& 31) = 5 then l_case5  M else
  if (a0 &&& 31) = 6 then l_case6 a1 M else
  if (a0 &&& 31) = 7 then l_case7 a1 M else
  if (a0 &&& 31) = 8 then l_case8 a1 a2 M else
  if (a0 &&& 31) = 9 then l_case9 a1 a2 a3 M else
  if (a0 &&& 31) = 10 then l_case10 a1 a2 M else
  if (a0 &&& 31) = 11 then l_case11 a1 a2 a3 M else
  if (a0 &&& 31) = 12 then l_case12 a1 M else
  if (a0 &&& 31) = 13 then l_case13 a1 M else
  if (a0 &&& 31) = 14 then l_case14 a1 M else
  if (a0 &&& 31) = 15 then l_case15 a1 M else
  if (a0 &&& 31) = 16 then l_case16 a1 a2 a3 M else
  if (a0 &&& 31) = 17 then l_case17 a1 a2 M else
  if (a0 &&& 31) = 18 then l_case18 a1 M else
  if (a0 &&& 31) = 19 then l_case19 a1 M else
  if (a0 &&& 31) = 20 then l_case20 a1 M else
  if (a0 &&& 31) = 21 then l_case21 a1 M else
  some M
theorem i_ofN {k : Nat} (h : k < 2147483648) : (Int32.ofNat k).toInt = (k : Int) := Int32.toInt_ofNat_of_lt h
theorem i_add (k j : Nat) : Int32.ofNat k + Int32.ofNat j = Int32.ofNat (k + j) := (Int32.ofNat_add k j).symm
theorem i_cell {L k j : Nat} (xs : Nat → Int32) (hk : k < 100000) (hL : k + j < L) (hj : j < 100) : vp_in (Int32.ofNat k + Int32.ofNat j) L ∧ xs (Int32.ofNat k + Int32.ofNat j).toNatClampNeg = xs (k + j) := by
  rw [i_add]
  have h1 := i_ofN (k := k + j) (by omega)
  refine ⟨vp_in_iff.mpr ⟨by omega, by omega⟩, congrArg xs ?_⟩
  show (Int32.ofNat (k + j)).toInt.toNat = k + j
  omega
theorem i_sw {x : Int32} (h : ∀ k : Nat, k < 22 → x ≠ Int32.ofNat k) : x.toInt < 0 ∨ 21 < x.toInt := by
  by_cases h1 : x.toInt < 0
  · exact Or.inl h1
  · by_cases h2 : 21 < x.toInt
    · exact Or.inr h2
    · exfalso
      have h3 : x.toInt.toNat < 22 := by omega
      refine h x.toInt.toNat h3 (Int32.toInt_inj.mp ?_)
      rw [i_ofN (by omega)]
      omega
set_option maxHeartbeats 4000000 in
set_option maxRecDepth 100000 in
theorem w_call {p : Program} {l : Launch} {e : Env} {s : State} {m : MethodId} {below : List Frame} {meth : Method} {c : Code} {G : fm_G} {w0 : Cond} {b L : Nat} {xs : Nat → Int32} (C0 : fm_C p s m #[Value.ref b] meth c G w0 "AllocationProfilerLaw" code 9 (some .boolean)) (C1 : fx_S G s) (C2 : lx_S s) (hst : l.stackTraces = false) (hX : va_X b L xs s s.heap) (hbl : b < s.heap.size) (hbA : ¬ fm_A G.2.2 b) {cells slots : Nat} (hcs : cells + 1 ≤ 601024 ∧ slots + 6 ≤ 7293034) {k : Nat} (hk : k < 100000) (hkL : k + 6 ≤ L) {M M' : fm_M} {H : Heap} {locs : List Loc} (hP : kP G M H) (hS : kS G s H locs) {ls : Array Slot} (hl : lv_has ls 9 [(0, .ref b), (1, .ref (G.2.2 + 0)), (2, .ref (G.2.2 + 174)), (3, .ref (G.2.2 + 210)), (4, .ref (G.2.2 + 211)), (5, .int (Int32.ofNat k))]) (h : l_step (xs k) (xs (k + 1)) (xs (k + 2)) (xs (k + 3)) (xs (k + 4)) (xs (k + 5)) M = some M')
    (hk2 : ∀ {H : Heap} {locs : List Loc}, kP G M' H → kS G s H locs → ∀ {ls : Array Slot}, lv_has ls 9 [(0, .ref b), (1, .ref (G.2.2 + 0)), (2, .ref (G.2.2 + 174)), (3, .ref (G.2.2 + 210)), (4, .ref (G.2.2 + 211)), (5, .int (Int32.ofNat k))] → W p l e room_1 s m #[Value.ref b] below meth c H locs (cells + 1) (slots + 6) (lw_Z below #[Value.ref b] s) (F0 m 1556 ls [])) : W p l e room_1 s m #[Value.ref b] below meth c H locs cells slots (lw_Z below #[Value.ref b] s) (F0 m 38 ls []) := by
  have hx := C0.1
  have hb := C0.2.1
  have ha0 := i_cell (L := L) (j := 0) xs hk (by omega) (by omega)
  have ha1 := i_cell (L := L) (j := 1) xs hk (by omega) (by omega)
  have ha2 := i_cell (L := L) (j := 2) xs hk (by omega) (by omega)
  have ha3 := i_cell (L := L) (j := 3) xs hk (by omega) (by omega)
  have ha4 := i_cell (L := L) (j := 4) xs hk (by omega) (by omega)
  have ha5 := i_cell (L := L) (j := 5) xs hk (by omega) (by omega)
  rw [show Int32.ofNat k + Int32.ofNat 0 = Int32.ofNat k by rw [i_add]; rfl] at ha0
  unfold l_step at h
  refine lv_aload_n hx hb d_law_38 rfl (lv_at hl 0 rfl) ?_
  refine lv_iload hx hb d_law_39 (lv_at hl 5 rfl) ?_
  refine l_sld hx hb hX hbl hbA hS ha0 d_law_41 ?_
  refine lv_bipush (v := 31) hx hb d_law_42 (by decide) ?_
  refine lv_iand hx hb d_law_44 ?_
  have hxs0 : xs (k + 0) = xs k := rfl
  rw [hxs0]
  generalize hxx : (xs k &&& 31) = y at h ⊢
  by_cases c0 : y = 0
  · rw [if_pos c0] at h
    subst c0
    refine lv_tableIn (tgt := 148) hx hb d_law_45 (by decide) (by decide) rfl (by decide) ?_
    exact w_law_0 C0 C1 C2 hst hX hbl hbA hcs (Int32.ofNat k) _ _ _ _ _ ha1 ha2 ha3 ha4 ha5 hP hS hl h hk2
  rw [if_neg c0] at h
  by_cases c1 : y = 1
  · rw [if_pos c1] at h
    subst c1
    refine lv_tableIn (tgt := 252) hx hb d_law_45 (by decide) (by decide) rfl (by decide) ?_
    exact w_law_1 C0 C1 C2 hst hX hbl hbA hcs (Int32.ofNat k) _ ha1 hP hS hl h hk2
  rw [if_neg c1] at h
  by_cases c2 : y = 2
  · rw [if_pos c2] at h
    subst c2
    refine lv_tableIn (tgt := 308) hx hb d_law_45 (by decide) (by decide) rfl (by decide) ?_
    exact w_law_2 C0 C1 C2 hst hX hbl hbA hcs (Int32.ofNat k) _ _ ha1 ha2 hP hS hl h hk2
  rw [if_neg c2] at h
  by_cases c3 : y = 3
  · rw [if_pos c3] at h
    subst c3
    refine lv_tableIn (tgt := 376) hx hb d_law_45 (by decide) (by decide) rfl (by decide) ?_
    exact w_law_3 C0 C1 C2 hst hX hbl hbA hcs (Int32.ofNat k) _ _ _ ha1 ha2 ha3 hP hS hl h hk2
  rw [if_neg c3] at h
  by_cases c4 : y = 4
  · rw [if_pos c4] at h
    subst c4
    refine lv_tableIn (tgt := 456) hx hb d_law_45 (by decide) (by decide) rfl (by decide) ?_
    exact w_law_4 C0 C1 C2 hst hX hbl hbA hcs (Int32.ofNat k)   hP hS hl h hk2
  rw [if_neg c4] at h
  by_cases c5 : y = 5
  · rw [if_pos c5] at h
    subst c5
    refine lv_tableIn (tgt := 500) hx hb d_law_45 (by decide) (by decide) rfl (by decide) ?_
    exact w_law_5 C0 C1 C2 hst hX hbl hbA hcs (Int32.ofNat k)   hP hS hl h hk2
  rw [if_neg c5] at h
  by_cases c6 : y = 6
  · rw [if_pos c6] at h
    subst c6
    refine lv_tableIn (tgt := 513) hx hb d_law_45 (by decide) (by decide) rfl (by decide) ?_
    exact w_law_6 C0 C1 C2 hst hX hbl hbA hcs (Int32.ofNat k) _ ha1 hP hS hl h hk2
  rw [if_neg c6] at h
  by_cases c7 : y = 7
  · rw [if_pos c7] at h
    subst c7
    refine lv_tableIn (tgt := 549) hx hb d_law_45 (by decide) (by decide) rfl (by decide) ?_
    exact w_law_7 C0 C1 C2 hst hX hbl hbA hcs (Int32.ofNat k) _ ha1 hP hS hl h hk2
  rw [if_neg c7] at h
  by_cases c8 : y = 8
  · rw [if_pos c8] at h
    subst c8
    refine lv_tableIn (tgt := 605) hx hb d_law_45 (by decide) (by decide) rfl (by decide) ?_
    exact w_law_8 C0 C1 C2 hst hX hbl hbA hcs (Int32.ofNat k) _ _ ha1 ha2 hP hS hl h hk2
  rw [if_neg c8] at h
  by_cases c9 : y = 9
  · rw [if_pos c9] at h
    subst c9
    refine lv_tableIn (tgt := 689) hx hb d_law_45 (by decide) (by decide) rfl (by decide) ?_
    exact w_law_9 C0 C1 C2 hst hX hbl hbA hcs (Int32.ofNat k) _ _ _ ha1 ha2 ha3 hP hS hl h hk2
  rw [if_neg c9] at h
  by_cases c10 : y = 10
  · rw [if_pos c10] at h
    subst c10
    refine lv_tableIn (tgt := 769) hx hb d_law_45 (by decide) (by decide) rfl (by decide) ?_
    exact w_law_10 C0 C1 C2 hst hX hbl hbA hcs (Int32.ofNat k) _ _ ha1 ha2 hP hS hl h hk2
  rw [if_neg c10] at h
  by_cases c11 : y = 11
  · rw [if_pos c11] at h
    subst c11
    refine lv_tableIn (tgt := 837) hx hb d_law_45 (by decide) (by decide) rfl (by decide) ?_
    exact w_law_11 C0 C1 C2 hst hX hbl hbA hcs (Int32.ofNat k) _ _ _ ha1 ha2 ha3 hP hS hl h hk2
  rw [if_neg c11] at h
  by_cases c12 : y = 12
  · rw [if_pos c12] at h
    subst c12
    refine lv_tableIn (tgt := 897) hx hb d_law_45 (by decide) (by decide) rfl (by decide) ?_
    exact w_law_12 C0 C1 C2 hst hX hbl hbA hcs (Int32.ofNat k) _ ha1 hP hS hl h hk2
  rw [if_neg c12] at h
  by_cases c13 : y = 13
  · rw [if_pos c13] at h
    subst c13
    refine lv_tableIn (tgt := 953) hx hb d_law_45 (by decide) (by decide) rfl (by decide) ?_
    exact w_law_13 C0 C1 C2 hst hX hbl hbA hcs (Int32.ofNat k) _ ha1 hP hS hl h hk2
  rw [if_neg c13] at h
  by_cases c14 : y = 14
  · rw [if_pos c14] at h
    subst c14
    refine lv_tableIn (tgt := 1009) hx hb d_law_45 (by decide) (by decide) rfl (by decide) ?_
    exact w_law_14 C0 C1 C2 hst hX hbl hbA hcs (Int32.ofNat k) _ ha1 hP hS hl h hk2
  rw [if_neg c14] at h
  by_cases c15 : y = 15
  · rw [if_pos c15] at h
    subst c15
    refine lv_tableIn (tgt := 1065) hx hb d_law_45 (by decide) (by decide) rfl (by decide) ?_
    exact w_law_15 C0 C1 C2 hst hX hbl hbA hcs (Int32.ofNat k) _ ha1 hP hS hl h hk2
  rw [if_neg c15] at h
  by_cases c16 : y = 16
  · rw [if_pos c16] at h
    subst c16
    refine lv_tableIn (tgt := 1121) hx hb d_law_45 (by decide) (by decide) rfl (by decide) ?_
    exact w_law_16 C0 C1 C2 hst hX hbl hbA hcs (Int32.ofNat k) _ _ _ ha1 ha2 ha3 hP hS hl h hk2
  rw [if_neg c16] at h
  by_cases c17 : y = 17
  · rw [if_pos c17] at h
    subst c17
    refine lv_tableIn (tgt := 1200) hx hb d_law_45 (by decide) (by decide) rfl (by decide) ?_
    exact w_law_17 C0 C1 C2 hst hX hbl hbA hcs (Int32.ofNat k) _ _ ha1 ha2 hP hS hl h hk2
  rw [if_neg c17] at h
  by_cases c18 : y = 18
  · rw [if_pos c18] at h
    subst c18
    refine lv_tableIn (tgt := 1268) hx hb d_law_45 (by decide) (by decide) rfl (by decide) ?_
    exact w_law_18 C0 C1 C2 hst hX hbl hbA hcs (Int32.ofNat k) _ ha1 hP hS hl h hk2
  rw [if_neg c18] at h
  by_cases c19 : y = 19
  · rw [if_pos c19] at h
    subst c19
    refine lv_tableIn (tgt := 1346) hx hb d_law_45 (by decide) (by decide) rfl (by decide) ?_
    exact w_law_19 C0 C1 C2 hst hX hbl hbA hcs (Int32.ofNat k) _ ha1 hP hS hl h hk2
  rw [if_neg c19] at h
  by_cases c20 : y = 20
  · rw [if_pos c20] at h
    subst c20
    refine lv_tableIn (tgt := 1424) hx hb d_law_45 (by decide) (by decide) rfl (by decide) ?_
    exact w_law_20 C0 C1 C2 hst hX hbl hbA hcs (Int32.ofNat k) _ ha1 hP hS hl h hk2
  rw [if_neg c20] at h
  by_cases c21 : y = 21
  · rw [if_pos c21] at h
    subst c21
    refine lv_tableIn (tgt := 1501) hx hb d_law_45 (by decide) (by decide) rfl (by decide) ?_
    exact w_law_21 C0 C1 C2 hst hX hbl hbA hcs (Int32.ofNat k) _ ha1 hP hS hl h hk2
  rw [if_neg c21] at h
  cases h
  refine lv_tableOut (tgt := 1556) hx hb d_law_45 (i_sw fun j hj hy => ?_) (by decide) ?_
  · match j, hj with
    | 0, _ => exact c0 hy
    | 1, _ => exact c1 hy
    | 2, _ => exact c2 hy
    | 3, _ => exact c3 hy
    | 4, _ => exact c4 hy
    | 5, _ => exact c5 hy
    | 6, _ => exact c6 hy
    | 7, _ => exact c7 hy
    | 8, _ => exact c8 hy
    | 9, _ => exact c9 hy
    | 10, _ => exact c10 hy
    | 11, _ => exact c11 hy
    | 12, _ => exact c12 hy
    | 13, _ => exact c13 hy
    | 14, _ => exact c14 hy
    | 15, _ => exact c15 hy
    | 16, _ => exact c16 hy
    | 17, _ => exact c17 hy
    | 18, _ => exact c18 hy
    | 19, _ => exact c19 hy
    | 20, _ => exact c20 hy
    | 21, _ => exact c21 hy
    | n + 22, h => exact absurd h (by omega)
  · exact W.widen (k := cells + 1) (n := slots + 6) (Nat.le_add_right _ _) (Nat.le_add_right _ _) (hk2 hP hS hl)
theorem i_le {k L : Nat} (hL : L ≤ 3072) (hk : k ≤ 100000) : (Int32.ofNat L - 6 < Int32.ofNat k) ↔ L < k + 6 := by
  rw [Int32.lt_iff_toInt_lt, Int32.toInt_sub, i_ofN (by omega), i_ofN (by omega), show (6 : Int32).toInt = 6 by decide, Int.bmod_def]
  split <;> omega
theorem w_loop {p : Program} {l : Launch} {e : Env} {s : State} {m : MethodId} {below : List Frame} {meth : Method} {c : Code} {G : fm_G} {w0 : Cond} {b L : Nat} {xs : Nat → Int32} (C0 : fm_C p s m #[Value.ref b] meth c G w0 "AllocationProfilerLaw" code 9 (some .boolean)) (C1 : fx_S G s) (C2 : lx_S s) (hst : l.stackTraces = false) (hX : va_X b L xs s s.heap) (hbl : b < s.heap.size) (hbA : ¬ fm_A G.2.2 b) (hr : meth.sig.returnType = ret) (hL : L ≤ 3072) (hA : ∀ q, fm_A G.2.2 q → s.heap.size ≤ q) (Rl : fm_M → Prop) (hstep : ∀ a0 a1 a2 a3 a4 a5 M, Rl M → ∃ M', l_step a0 a1 a2 a3 a4 a5 M = some M' ∧ Rl M') :
    ∀ (n k cells slots : Nat), k + 6 * n + 6 > L → k ≤ L → cells + n ≤ 601024 → slots + 6 * n ≤ 7293034 → ∀ {M : fm_M} {H : Heap} {locs : List Loc}, Rl M → kP G M H → kS G s H locs → ∀ {ls : Array Slot}, lv_has ls 9 [(0, .ref b), (1, .ref (G.2.2 + 0)), (2, .ref (G.2.2 + 174)), (3, .ref (G.2.2 + 210)), (4, .ref (G.2.2 + 211)), (5, .int (Int32.ofNat k))] → W p l e room_1 s m #[Value.ref b] below meth c H locs cells slots (lw_Z below #[Value.ref b] s) (F0 m 28 ls []) := by
  have hx := C0.1
  have hb := C0.2.1
  have hfin : ∀ {cells slots : Nat} {H : Heap} {locs : List Loc} {ls : Array Slot}, cells ≤ 601024 → slots ≤ 7293034 → kS G s H locs → W p l e room_1 s m #[Value.ref b] below meth c H locs cells slots (lw_Z below #[Value.ref b] s) (F0 m 1562 ls []) := by
    intro cells slots H locs ls h1 h2 hS
    refine va_forget (fun q hq => hA _ (hS.2.2 q hq)) ?_
    refine W.widen h1 h2 ?_
    refine lv_iconst (v := 1) hx hb d_law_1562 (by decide) ?_
    exact lw_ret hx hb hr C0.2.2.2.2.2.2.2 d_law_1563
  intro n
  induction n with
  | zero =>
    intro k cells slots h1 h2 h3 h4 M H locs hR hP hS ls hl
    refine lv_iload hx hb d_law_28 (lv_at hl 5 rfl) ?_
    refine lv_aload_n hx hb d_law_30 rfl (lv_at hl 0 rfl) ?_
    refine va_slen hx hb hX hbl hbA hS d_law_31 ?_
    refine lv_bipush (v := 6) hx hb d_law_32 (by decide) ?_
    refine lv_isub hx hb d_law_34 ?_
    refine lv_icmp_gt (tgt := 1562) hx hb d_law_35 (by decide) (fun c0 => ?_) (fun c0 => ?_)
    · exact hfin h3 h4 hS
    · exact absurd ((i_le hL (by omega)).mpr (by omega)) c0
  | succ n ih =>
    intro k cells slots h1 h2 h3 h4 M H locs hR hP hS ls hl
    refine lv_iload hx hb d_law_28 (lv_at hl 5 rfl) ?_
    refine lv_aload_n hx hb d_law_30 rfl (lv_at hl 0 rfl) ?_
    refine va_slen hx hb hX hbl hbA hS d_law_31 ?_
    refine lv_bipush (v := 6) hx hb d_law_32 (by decide) ?_
    refine lv_isub hx hb d_law_34 ?_
    refine lv_icmp_gt (tgt := 1562) hx hb d_law_35 (by decide) (fun c0 => ?_) (fun c0 => ?_)
    · exact hfin (by omega) (by omega) hS
    · have hk : k + 6 ≤ L := Nat.le_of_not_lt fun h => c0 ((i_le hL (by omega)).mpr h)
      obtain ⟨M', hM', hR'⟩ := hstep (xs k) (xs (k + 1)) (xs (k + 2)) (xs (k + 3)) (xs (k + 4)) (xs (k + 5)) M hR
      refine w_call C0 C1 C2 hst hX hbl hbA ⟨by omega, by omega⟩ (by omega) hk hP hS hl hM' ?_
      intro H locs hP hS ls hl
      have h6 : Int32.ofNat k + 6 = Int32.ofNat (k + 6) := i_add k 6
      refine lv_iinc (v := Int32.ofNat (k + 6)) (lv' := [(5, .int (Int32.ofNat (k + 6))), (0, .ref b), (1, .ref (G.2.2 + 0)), (2, .ref (G.2.2 + 174)), (3, .ref (G.2.2 + 210)), (4, .ref (G.2.2 + 211))]) hx hb d_law_1556 hl (k := 5) rfl ?_ (by decide) rfl (fun ls hl => ?_)
      · rw [← h6]
        exact congrArg (fun z => Int32.ofNat k + z) (by decide)
      refine lv_goto (tgt := 28) hx hb d_law_1559 (by decide) ?_
      exact ih (k + 6) (cells + 1) (slots + 6) (by omega) (by omega) (by omega) (by omega) hR' hP hS (lv_sub hl [1, 2, 3, 4, 5, 0] rfl)
set_option maxHeartbeats 4000000 in
set_option maxRecDepth 100000 in
theorem w_start {p : Program} {e : Env} {s : State} {m : MethodId} {below : List Frame} {meth : Method} {c : Code} (l : Launch) (hst : l.stackTraces = false) (Rl : fm_M → Prop) (hR0 : Rl m0) (hstep : ∀ a0 a1 a2 a3 a4 a5 M, Rl M → ∃ M', l_step a0 a1 a2 a3 a4 a5 M = some M' ∧ Rl M') {b L : Nat} {xs : Nat → Int32} (hL : L ≤ 3072) (A0 : lw_At p s m meth c b L xs) : W p l e room_1 s m #[Value.ref b] below meth c s.heap [] 0 0 (lw_Z below #[Value.ref b] s) (entryFrame m ([Value.ref b] : List Value).toArray 9) := by
  obtain ⟨hx, hb, hr, hml, hown, hts, hX, hbl, hlocks, hgv⟩ := A0
  obtain ⟨G, hG, hfx, hcx, hlx⟩ := st_all hts hgv
  have C00 : fm_C p s m #[Value.ref b] meth c G (.initialized "AllocationProfilerLaw") "AllocationProfilerLaw" code 9 (some .boolean) := ⟨hx, hb, hr, hml, hown, fun w hw => by
    rcases List.mem_cons.mp hw with rfl | hw
    · exact hts _ (tb_in 0 (by decide +kernel))
    · exact hts w (List.mem_filter.mp hw).1, hfx.1, hlocks⟩
  have C0 : cn_C p s m #[Value.ref b] meth c G (.initialized "AllocationProfilerLaw") "AllocationProfilerLaw" code 9 (some .boolean) := ⟨C00, hcx, by rw [hG]; exact Nat.le_refl _⟩
  have hbA : ¬ fm_A G.2.2 b := fun h => by
    have h : G.2.2 ≤ b := h
    omega
  have hK : cn_K G s ([], []) s.heap [] 0 := ⟨fun k q hq => by simp [fm_wl] at hq, va_S.rf, by rw [hG]; rfl⟩
  rw [lg_entry_eq]
  have hl := lv_entry [Value.ref b] (n := 9) (Nat.le_of_ble_eq_true rfl)
  generalize (lg_sl [Value.ref b] ++ List.replicate (9 - (lg_sl [Value.ref b]).length) Slot.unset).toArray = ls at hl ⊢
  have hl : lv_has ls 9 [(0, .ref b)] := hl
  refine cn_new C0 N_Law_8 hK ⟨Nat.le_of_ble_eq_true rfl, Nat.le_of_ble_eq_true rfl⟩ d_law_0 (fun H hK => ?_)
  refine lv_dup hx hb d_law_3 rfl ?_
  refine cn_callI C0 LI_Law_92 (As := []) (cc_AP_init l G 0 cm_AP) ⟨rfl, rfl⟩ ⟨Nat.le_of_ble_eq_true rfl, Nat.le_of_ble_eq_true rfl⟩ hK rfl hl.1 rfl (Nat.le_of_ble_eq_true rfl) d_law_4 ⟨Nat.le_of_ble_eq_true rfl, Nat.le_of_ble_eq_true rfl⟩ (fun H locs hK => ?_)
  refine lv_astore_n (lv' := [(1, .ref (G.2.2 + 0)), (0, .ref b)]) hx hb d_law_7 rfl hl (by decide) rfl (fun ls hl => ?_)
  have e174 : (shL.take 174).length = 174 := cm_len.1
  have e210 : (shL.take 210).length = 210 := cm_len.2
  refine cn_new C0 N_Law_93 hK ⟨Nat.le_of_ble_eq_true rfl, Nat.le_of_ble_eq_true rfl⟩ d_law_8 (fun H hK => ?_)
  rw [show ((shL.take 174, [(0, 8, -1), (148, 1, 2), (131, 1, 1), (7, 11, 50)]) : cn_T).1.length = 174 from e174]
  refine lv_dup hx hb d_law_11 rfl ?_
  refine cn_callI C0 LI_Law_95 (As := []) (cc_Mo_init l G 174 cm_Mo) ⟨rfl, rfl⟩ ⟨Nat.le_of_ble_eq_true rfl, Nat.le_of_ble_eq_true rfl⟩ hK rfl hl.1 rfl (Nat.le_of_ble_eq_true rfl) d_law_12 ⟨Nat.le_of_ble_eq_true rfl, Nat.le_of_ble_eq_true rfl⟩ (fun H locs hK => ?_)
  refine lv_astore_n (lv' := [(2, .ref (G.2.2 + 174)), (1, .ref (G.2.2 + 0)), (0, .ref b)]) hx hb d_law_15 rfl hl (by decide) rfl (fun ls hl => ?_)
  refine lv_iconst (v := 1) hx hb d_law_16 (by decide) ?_
  refine cn_prim C0 (ty := .long) rfl (by decide) aC_long hK (N0 := 1) (by decide) (by decide) (by decide) ⟨Nat.le_of_ble_eq_true rfl, Nat.le_of_ble_eq_true rfl⟩ d_law_17 (fun H hK => ?_)
  rw [show ((shL.take 210, [(174, 10, -1), (0, 8, -1), (148, 1, 2), (131, 1, 1), (7, 11, 50)]) : cn_T).1.length = 210 from e210]
  refine lv_astore_n (lv' := [(3, .ref (G.2.2 + 210)), (2, .ref (G.2.2 + 174)), (1, .ref (G.2.2 + 0)), (0, .ref b)]) hx hb d_law_19 rfl hl (by decide) rfl (fun ls hl => ?_)
  refine lv_iconst (v := 1) hx hb d_law_20 (by decide) ?_
  refine cn_prim C0 (ty := .double) rfl (by decide) aC_double hK (N0 := 1) (by decide) (by decide) (by decide) ⟨Nat.le_of_ble_eq_true rfl, Nat.le_of_ble_eq_true rfl⟩ d_law_21 (fun H hK => ?_)
  rw [cn_len_ad, show ((shL.take 210, [(174, 10, -1), (0, 8, -1), (148, 1, 2), (131, 1, 1), (7, 11, 50)]) : cn_T).1.length = 210 from e210]
  refine lv_astore (lv' := [(4, .ref (G.2.2 + 211)), (3, .ref (G.2.2 + 210)), (2, .ref (G.2.2 + 174)), (1, .ref (G.2.2 + 0)), (0, .ref b)]) hx hb d_law_23 hl (by decide) rfl (fun ls hl => ?_)
  refine lv_iconst (v := 0) hx hb d_law_25 (by decide) ?_
  refine lv_istore (lv' := [(5, .int (Int32.ofNat 0)), (4, .ref (G.2.2 + 211)), (3, .ref (G.2.2 + 210)), (2, .ref (G.2.2 + 174)), (1, .ref (G.2.2 + 0)), (0, .ref b)]) hx hb d_law_26 hl (by decide) rfl (fun ls hl => ?_)
  have hP : kP G m0 H := cm_kP (by
    have h9 := hK.1
    rw [show cn_ad (cn_ad (shL.take 210, [(174, 10, -1), (0, 8, -1), (148, 1, 2), (131, 1, 1), (7, 11, 50)]) (.inl (.long, 1))) (.inl (.double, 1)) = (shL, m0L) from cm_end] at h9
    exact h9)
  exact w_loop C00 hfx hlx hst hX hbl hbA hr hL (fun q hq => by rw [← hG]; exact hq) Rl hstep 512 0 _ _ (by omega) (Nat.zero_le _) (Nat.le_of_ble_eq_true rfl) (Nat.le_of_ble_eq_true rfl) hR0 hP hK.2.1 (lv_sub hl [5, 4, 3, 2, 1, 0] rfl)
