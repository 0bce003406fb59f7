/-! an instruction, a row, over what the pure functions read and write -/
abbrev kP (G : fm_G) (M : fm_M) (H : Heap) : Prop := fm_P G 212 shF M H
abbrev kS (G : fm_G) (s : State) (H : Heap) (locs : List Loc) : Prop := va_S (fm_A G.2.2) s.heap H locs
theorem ai_of {q : Nat} {i x : Int32} {M : fm_M} (h : ai q i M = some x) : ∃ n, shF q = .inl (.int, n) ∧ (0 ≤ i.toInt ∧ i.toInt < n) ∧ q < 212 ∧ x = M.1 q i.toInt.toNat := by
  unfold ai at h
  split at h
  · rename_i n hn
    split at h
    · rename_i hi
      cases h
      have hi := in_of hi
      exact ⟨n, an_of hn, hi, sh_ltA (an_of hn) hi.1 hi.2, rfl⟩
    · cases h
  · cases h
theorem si_of {q : Nat} {i v : Int32} {M M' : fm_M} (h : si q i v M = some M') : ∃ n, shF q = .inl (.int, n) ∧ (0 ≤ i.toInt ∧ i.toInt < n) ∧ q < 212 ∧ M' = fm_sI M q i.toInt.toNat v := by
  unfold si at h
  split at h
  · rename_i n hn
    split at h
    · rename_i hi
      cases h
      have hi := in_of hi
      exact ⟨n, an_of hn, hi, sh_ltA (an_of hn) hi.1 hi.2, rfl⟩
    · cases h
  · cases h
theorem az_of {q : Nat} {i x : Int32} {M : fm_M} (h : az q i M = some x) : ∃ n, shF q = .inl (.boolean, n) ∧ (0 ≤ i.toInt ∧ i.toInt < n) ∧ q < 212 ∧ x = M.1 q i.toInt.toNat := by
  unfold az at h
  split at h
  · rename_i n hn
    split at h
    · rename_i hi
      cases h
      have hi := in_of hi
      exact ⟨n, an_of hn, hi, sh_ltA (an_of hn) hi.1 hi.2, rfl⟩
    · cases h
  · cases h
theorem sz_of {q : Nat} {i v : Int32} {M M' : fm_M} (h : sz q i v M = some M') : ∃ n, shF q = .inl (.boolean, n) ∧ (0 ≤ i.toInt ∧ i.toInt < n) ∧ q < 212 ∧ M' = fm_sI M q i.toInt.toNat v := by
  unfold sz at h
  split at h
  · rename_i n hn
    split at h
    · rename_i hi
      cases h
      have hi := in_of hi
      exact ⟨n, an_of hn, hi, sh_ltA (an_of hn) hi.1 hi.2, rfl⟩
    · cases h
  · cases h
theorem aj_of {q : Nat} {i : Int32} {x : Int64} {M : fm_M} (h : aj q i M = some x) : ∃ n, shF q = .inl (.long, n) ∧ (0 ≤ i.toInt ∧ i.toInt < n) ∧ q < 212 ∧ x = M.2.1 q i.toInt.toNat := by
  unfold aj at h
  split at h
  · rename_i n hn
    split at h
    · rename_i hi
      cases h
      have hi := in_of hi
      exact ⟨n, an_of hn, hi, sh_ltA (an_of hn) hi.1 hi.2, rfl⟩
    · cases h
  · cases h
theorem sj_of {q : Nat} {i : Int32} {v : Int64} {M M' : fm_M} (h : sj q i v M = some M') : ∃ n, shF q = .inl (.long, n) ∧ (0 ≤ i.toInt ∧ i.toInt < n) ∧ q < 212 ∧ M' = fm_sJ M q i.toInt.toNat v := by
  unfold sj at h
  split at h
  · rename_i n hn
    split at h
    · rename_i hi
      cases h
      have hi := in_of hi
      exact ⟨n, an_of hn, hi, sh_ltA (an_of hn) hi.1 hi.2, rfl⟩
    · cases h
  · cases h
theorem af_of {q : Nat} {i : Int32} {x : UInt32} {M : fm_M} (h : af q i M = some x) : ∃ n, shF q = .inl (.float, n) ∧ (0 ≤ i.toInt ∧ i.toInt < n) ∧ q < 212 ∧ x = M.2.2.1 q i.toInt.toNat := by
  unfold af at h
  split at h
  · rename_i n hn
    split at h
    · rename_i hi
      cases h
      have hi := in_of hi
      exact ⟨n, an_of hn, hi, sh_ltA (an_of hn) hi.1 hi.2, rfl⟩
    · cases h
  · cases h
theorem sf_of {q : Nat} {i : Int32} {v : UInt32} {M M' : fm_M} (h : sf q i v M = some M') : ∃ n, shF q = .inl (.float, n) ∧ (0 ≤ i.toInt ∧ i.toInt < n) ∧ q < 212 ∧ M' = fm_sF M q i.toInt.toNat v := by
  unfold sf at h
  split at h
  · rename_i n hn
    split at h
    · rename_i hi
      cases h
      have hi := in_of hi
      exact ⟨n, an_of hn, hi, sh_ltA (an_of hn) hi.1 hi.2, rfl⟩
    · cases h
  · cases h
theorem ad_of {q : Nat} {i : Int32} {x : UInt64} {M : fm_M} (h : ad q i M = some x) : ∃ n, shF q = .inl (.double, n) ∧ (0 ≤ i.toInt ∧ i.toInt < n) ∧ q < 212 ∧ x = M.2.2.2 q i.toInt.toNat := by
  unfold ad at h
  split at h
  · rename_i n hn
    split at h
    · rename_i hi
      cases h
      have hi := in_of hi
      exact ⟨n, an_of hn, hi, sh_ltA (an_of hn) hi.1 hi.2, rfl⟩
    · cases h
  · cases h
theorem sd_of {q : Nat} {i : Int32} {v : UInt64} {M M' : fm_M} (h : sd q i v M = some M') : ∃ n, shF q = .inl (.double, n) ∧ (0 ≤ i.toInt ∧ i.toInt < n) ∧ q < 212 ∧ M' = fm_sD M q i.toInt.toNat v := by
  unfold sd at h
  split at h
  · rename_i n hn
    split at h
    · rename_i hi
      cases h
      have hi := in_of hi
      exact ⟨n, an_of hn, hi, sh_ltA (an_of hn) hi.1 hi.2, rfl⟩
    · cases h
  · cases h
theorem ln_of {q : Nat} {x : Int32} (h : ln q = some x) : ∃ n, shF q = .inl (.int, n) ∧ q < 212 ∧ x = Int32.ofNat n := by
  unfold ln at h
  split at h
  · rename_i ty n hn
    split at h
    · rename_i hi
      cases h
      obtain ⟨h1, rfl⟩ := hi
      exact ⟨n, an_of hn, h1, rfl⟩
    · cases h
  · cases h
theorem ar_of {q r : Nat} {i : Int32} (h : ar q i = some r) : ∃ ty rs, shF q = .inr (.inl (ty, rs)) ∧ (0 ≤ i.toInt ∧ i.toInt < rs.length) ∧ q < 212 ∧ rs[i.toInt.toNat]? = some (some r) := by
  unfold ar at h
  split at h
  · rename_i ty rs hs
    split at h
    · rename_i hi
      have hi := in_of hi
      refine ⟨ty, rs, hs, hi, sh_ltR hs, ?_⟩
      cases hr : rs[i.toInt.toNat]? with
      | none => rw [hr] at h; cases h
      | some o => rw [hr] at h; exact congrArg some h
    · cases h
  · cases h
theorem tk_of {i x : Int32} (h : tk i = some x) : (0 ≤ i.toInt ∧ i.toInt < fm_tk.length) ∧ x = fm_tk.getD i.toInt.toNat 0 := by
  unfold tk at h
  split at h
  · rename_i hi
    cases h
    exact ⟨in_of hi, rfl⟩
  · cases h
theorem pt_of {i x : Int32} (h : pt i = some x) : (0 ≤ i.toInt ∧ i.toInt < fm_pt.length) ∧ x = fm_pt.getD i.toInt.toNat 0 := by
  unfold pt at h
  split at h
  · rename_i hi
    cases h
    exact ⟨in_of hi, rfl⟩
  · cases h
/-- every array of references holds things of a kind that the tables know -/
def rkb (x : fm_Sh) : Bool := match x with
  | .inr (.inl (ty, _)) => ty.isReference && decide (ty ∈ fm_tyL)
  | _ => true
theorem rk_all : ∀ q, q < 212 → rkb (shF q) = true := by decide +kernel
theorem rk_of {q : Nat} {ty : FieldType} {rs : List (Option Nat)} (hs : shF q = .inr (.inl (ty, rs))) : ty.isReference = true ∧ ∃ t0 : Nat, fm_tyL[t0]? = some ty := by
  have h1 := rk_all q (sh_ltR hs)
  rw [hs] at h1
  simp only [rkb, Bool.and_eq_true, decide_eq_true_eq] at h1
  obtain ⟨t0, ht⟩ := List.getElem?_of_mem h1.2
  exact ⟨h1.1, t0, ht⟩
section ACC
variable {p : Program} {l : Launch} {e : Env} {R : Room} {s : State} {m : MethodId} {args : Array Value} {below : List Frame} {meth : Method} {c : Code} {H : Heap} {locs : List Loc} {cells slots : Nat} {Q : State → Prop}
variable {cc : ByteArray} {pc : Nat} {ls : Array Slot} {rest : List Value} {G : fm_G} {M M1 : fm_M} {q : Nat} {w0 : Cond} {own : String} {nL : Nat} {ret : Option FieldType}
theorem k_gi (C0 : fm_C p s m args meth c G w0 own cc nL ret) {idx ci j : Nat} (hF : fm_F own idx ci j) (hi : ik ci j) (hP : kP G M H) {x : Int32} (hg : gi q ci j M = some x) (hdg : decode cc pc = .ok (.getfield idx, 3))
    (kk : W p l e R s m args below meth c H locs cells slots Q (F0 m (pc + 3) ls (.int x :: rest))) : W p l e R s m args below meth c H locs cells slots Q (F0 m pc ls (.ref (G.2.2 + q) :: rest)) := by
  obtain ⟨hc, rfl⟩ := gi_of hg
  obtain ⟨fl, hs, hq⟩ := cl_of hc
  exact r_get C0 hF hP hq hs (fm_fv_get (ik_of hi hs)) hdg kk
theorem k_gr (C0 : fm_C p s m args meth c G w0 own cc nL ret) {idx ci j : Nat} (hF : fm_F own idx ci j) (hP : kP G M H) {r : Nat} (hg : gr q ci j = some r) (hdg : decode cc pc = .ok (.getfield idx, 3))
    (kk : W p l e R s m args below meth c H locs cells slots Q (F0 m (pc + 3) ls (.ref (G.2.2 + r) :: rest))) : W p l e R s m args below meth c H locs cells slots Q (F0 m pc ls (.ref (G.2.2 + q) :: rest)) := by
  obtain ⟨fl, hs, hq, hr⟩ := gr_of hg
  exact r_get C0 hF hP hq hs (fm_fv_getr hr) hdg kk
theorem k_pi (C0 : fm_C p s m args meth c G w0 own cc nL ret) {idx ci j : Nat} (hF : fm_Fp own idx ci j .int) (hi : ik ci j) (hP : kP G M H) (hS : kS G s H locs) {v : Int32} (hg : pi q ci j v M = some M1) (hdg : decode cc pc = .ok (.putfield idx, 3))
    (kk : ∀ (H1 : Heap) (locs1 : List Loc), kP G M1 H1 → kS G s H1 locs1 → W p l e R s m args below meth c H1 locs1 cells slots Q (F0 m (pc + 3) ls rest)) : W p l e R s m args below meth c H locs cells slots Q (F0 m pc ls (.int v :: .ref (G.2.2 + q) :: rest)) := by
  obtain ⟨hc, rfl⟩ := pi_of hg
  obtain ⟨fl, hs, hq⟩ := cl_of hc
  exact r_put C0 hF hP hS hq hs (ik_of hi hs) rfl rfl hdg kk
theorem k_pz (C0 : fm_C p s m args meth c G w0 own cc nL ret) {idx ci j : Nat} (hF : fm_Fp own idx ci j .boolean) (hi : ik ci j) (hP : kP G M H) (hS : kS G s H locs) {v : Int32} (hv : narrow .boolean (.int v) = .int v) (hw : fits .boolean (.int v) = true) (hg : pi q ci j v M = some M1) (hdg : decode cc pc = .ok (.putfield idx, 3))
    (kk : ∀ (H1 : Heap) (locs1 : List Loc), kP G M1 H1 → kS G s H1 locs1 → W p l e R s m args below meth c H1 locs1 cells slots Q (F0 m (pc + 3) ls rest)) : W p l e R s m args below meth c H locs cells slots Q (F0 m pc ls (.int v :: .ref (G.2.2 + q) :: rest)) := by
  obtain ⟨hc, rfl⟩ := pi_of hg
  obtain ⟨fl, hs, hq⟩ := cl_of hc
  exact r_put C0 hF hP hS hq hs (ik_of hi hs) hv hw hdg kk
theorem k_ai (C0 : fm_C p s m args meth c G w0 own cc nL ret) (hP : kP G M H) {i x : Int32} (hg : ai q i M = some x) (hdg : decode cc pc = .ok (.iaload, 1))
    (kk : W p l e R s m args below meth c H locs cells slots Q (F0 m (pc + 1) ls (.int x :: rest))) : W p l e R s m args below meth c H locs cells slots Q (F0 m pc ls (.int i :: .ref (G.2.2 + q) :: rest)) := by
  obtain ⟨n, hs, hi, hq, rfl⟩ := ai_of hg
  exact r_iald C0 hP hq hs hi hdg kk
theorem k_az (C0 : fm_C p s m args meth c G w0 own cc nL ret) (hP : kP G M H) {i x : Int32} (hg : az q i M = some x) (hdg : decode cc pc = .ok (.baload, 1))
    (kk : W p l e R s m args below meth c H locs cells slots Q (F0 m (pc + 1) ls (.int x :: rest))) : W p l e R s m args below meth c H locs cells slots Q (F0 m pc ls (.int i :: .ref (G.2.2 + q) :: rest)) := by
  obtain ⟨n, hs, hi, hq, rfl⟩ := az_of hg
  exact r_zald C0 hP hq hs hi hdg kk
theorem k_aj (C0 : fm_C p s m args meth c G w0 own cc nL ret) (hP : kP G M H) {i : Int32} {x : Int64} (hg : aj q i M = some x) (hdg : decode cc pc = .ok (.laload, 1))
    (kk : W p l e R s m args below meth c H locs cells slots Q (F0 m (pc + 1) ls (.long x :: rest))) : W p l e R s m args below meth c H locs cells slots Q (F0 m pc ls (.int i :: .ref (G.2.2 + q) :: rest)) := by
  obtain ⟨n, hs, hi, hq, rfl⟩ := aj_of hg
  exact r_lald C0 hP hq hs hi hdg kk
theorem k_af (C0 : fm_C p s m args meth c G w0 own cc nL ret) (hP : kP G M H) {i : Int32} {x : UInt32} (hg : af q i M = some x) (hdg : decode cc pc = .ok (.faload, 1))
    (kk : W p l e R s m args below meth c H locs cells slots Q (F0 m (pc + 1) ls (.float x :: rest))) : W p l e R s m args below meth c H locs cells slots Q (F0 m pc ls (.int i :: .ref (G.2.2 + q) :: rest)) := by
  obtain ⟨n, hs, hi, hq, rfl⟩ := af_of hg
  exact r_fald C0 hP hq hs hi hdg kk
theorem k_ad (C0 : fm_C p s m args meth c G w0 own cc nL ret) (hP : kP G M H) {i : Int32} {x : UInt64} (hg : ad q i M = some x) (hdg : decode cc pc = .ok (.daload, 1))
    (kk : W p l e R s m args below meth c H locs cells slots Q (F0 m (pc + 1) ls (.double x :: rest))) : W p l e R s m args below meth c H locs cells slots Q (F0 m pc ls (.int i :: .ref (G.2.2 + q) :: rest)) := by
  obtain ⟨n, hs, hi, hq, rfl⟩ := ad_of hg
  exact r_dald C0 hP hq hs hi hdg kk
theorem k_si (C0 : fm_C p s m args meth c G w0 own cc nL ret) (hP : kP G M H) (hS : kS G s H locs) {i v : Int32} (hg : si q i v M = some M1) (hdg : decode cc pc = .ok (.iastore, 1))
    (kk : ∀ (H1 : Heap) (locs1 : List Loc), kP G M1 H1 → kS G s H1 locs1 → W p l e R s m args below meth c H1 locs1 cells slots Q (F0 m (pc + 1) ls rest)) : W p l e R s m args below meth c H locs cells slots Q (F0 m pc ls (.int v :: .int i :: .ref (G.2.2 + q) :: rest)) := by
  obtain ⟨n, hs, hi, hq, rfl⟩ := si_of hg
  exact r_iast C0 hP hS hq hs hi hdg kk
theorem k_sz (C0 : fm_C p s m args meth c G w0 own cc nL ret) (hP : kP G M H) (hS : kS G s H locs) {i v : Int32} (hv : vp_nar .boolean v = v) (hg : sz q i v M = some M1) (hdg : decode cc pc = .ok (.bastore, 1))
    (kk : ∀ (H1 : Heap) (locs1 : List Loc), kP G M1 H1 → kS G s H1 locs1 → W p l e R s m args below meth c H1 locs1 cells slots Q (F0 m (pc + 1) ls rest)) : W p l e R s m args below meth c H locs cells slots Q (F0 m pc ls (.int v :: .int i :: .ref (G.2.2 + q) :: rest)) := by
  obtain ⟨n, hs, hi, hq, rfl⟩ := sz_of hg
  exact r_zast C0 hP hS hq hs hi hv hdg kk
theorem k_sj (C0 : fm_C p s m args meth c G w0 own cc nL ret) (hP : kP G M H) (hS : kS G s H locs) {i : Int32} {v : Int64} (hg : sj q i v M = some M1) (hdg : decode cc pc = .ok (.lastore, 1))
    (kk : ∀ (H1 : Heap) (locs1 : List Loc), kP G M1 H1 → kS G s H1 locs1 → W p l e R s m args below meth c H1 locs1 cells slots Q (F0 m (pc + 1) ls rest)) : W p l e R s m args below meth c H locs cells slots Q (F0 m pc ls (.long v :: .int i :: .ref (G.2.2 + q) :: rest)) := by
  obtain ⟨n, hs, hi, hq, rfl⟩ := sj_of hg
  exact r_last C0 hP hS hq hs hi hdg kk
theorem k_sf (C0 : fm_C p s m args meth c G w0 own cc nL ret) (hP : kP G M H) (hS : kS G s H locs) {i : Int32} {v : UInt32} (hg : sf q i v M = some M1) (hdg : decode cc pc = .ok (.fastore, 1))
    (kk : ∀ (H1 : Heap) (locs1 : List Loc), kP G M1 H1 → kS G s H1 locs1 → W p l e R s m args below meth c H1 locs1 cells slots Q (F0 m (pc + 1) ls rest)) : W p l e R s m args below meth c H locs cells slots Q (F0 m pc ls (.float v :: .int i :: .ref (G.2.2 + q) :: rest)) := by
  obtain ⟨n, hs, hi, hq, rfl⟩ := sf_of hg
  exact r_fast C0 hP hS hq hs hi hdg kk
theorem k_sd (C0 : fm_C p s m args meth c G w0 own cc nL ret) (hP : kP G M H) (hS : kS G s H locs) {i : Int32} {v : UInt64} (hg : sd q i v M = some M1) (hdg : decode cc pc = .ok (.dastore, 1))
    (kk : ∀ (H1 : Heap) (locs1 : List Loc), kP G M1 H1 → kS G s H1 locs1 → W p l e R s m args below meth c H1 locs1 cells slots Q (F0 m (pc + 1) ls rest)) : W p l e R s m args below meth c H locs cells slots Q (F0 m pc ls (.double v :: .int i :: .ref (G.2.2 + q) :: rest)) := by
  obtain ⟨n, hs, hi, hq, rfl⟩ := sd_of hg
  exact r_dast C0 hP hS hq hs hi hdg kk
theorem k_ln (C0 : fm_C p s m args meth c G w0 own cc nL ret) (hP : kP G M H) {x : Int32} (hg : ln q = some x) (hdg : decode cc pc = .ok (.arraylength, 1))
    (kk : W p l e R s m args below meth c H locs cells slots Q (F0 m (pc + 1) ls (.int x :: rest))) : W p l e R s m args below meth c H locs cells slots Q (F0 m pc ls (.ref (G.2.2 + q) :: rest)) := by
  obtain ⟨n, hs, hq, rfl⟩ := ln_of hg
  exact r_alen C0 hP hq hs (t0 := 0) rfl hdg kk
theorem k_ar (C0 : fm_C p s m args meth c G w0 own cc nL ret) (hP : kP G M H) {i : Int32} {r : Nat} (hg : ar q i = some r) (hdg : decode cc pc = .ok (.aaload, 1))
    (kk : W p l e R s m args below meth c H locs cells slots Q (F0 m (pc + 1) ls (.ref (G.2.2 + r) :: rest))) : W p l e R s m args below meth c H locs cells slots Q (F0 m pc ls (.int i :: .ref (G.2.2 + q) :: rest)) := by
  obtain ⟨ty, rs, hs, hi, hq, hr⟩ := ar_of hg
  obtain ⟨h1, t0, ht⟩ := rk_of hs
  exact r_aald C0 hP hq hs ht h1 hi hr hdg kk
theorem k_tks (C0 : fm_C p s m args meth c G w0 own cc nL ret) (hS : kS G s H locs) {idx : Nat} (hl : Cond.fieldLink own idx "AllocationProfiler" "TAKES" "[I" ∈ gT ∨ ∃ host, Cond.fieldLinkNest own idx "AllocationProfiler" "TAKES" "[I" host ∈ nW) (hdg : decode cc pc = .ok (.getstatic idx, 3))
    (kk : ∀ t, fm_St "TAKES" fm_tk G.2.2 t s s.heap → W p l e R s m args below meth c H locs cells slots Q (F0 m (pc + 3) ls (.ref t :: rest))) : W p l e R s m args below meth c H locs cells slots Q (F0 m pc ls rest) := by
  obtain ⟨t, ht⟩ := C0.2.2.2.2.2.2.1.2.2.1
  exact r_sta C0 ht hS hl hdg (kk t ht)
theorem k_pts (C0 : fm_C p s m args meth c G w0 own cc nL ret) (hS : kS G s H locs) {idx : Nat} (hl : Cond.fieldLink own idx "AllocationProfiler" "PUTS" "[I" ∈ gT ∨ ∃ host, Cond.fieldLinkNest own idx "AllocationProfiler" "PUTS" "[I" host ∈ nW) (hdg : decode cc pc = .ok (.getstatic idx, 3))
    (kk : ∀ t, fm_St "PUTS" fm_pt G.2.2 t s s.heap → W p l e R s m args below meth c H locs cells slots Q (F0 m (pc + 3) ls (.ref t :: rest))) : W p l e R s m args below meth c H locs cells slots Q (F0 m pc ls rest) := by
  obtain ⟨t, ht⟩ := C0.2.2.2.2.2.2.1.2.2.2
  exact r_sta C0 ht hS hl hdg (kk t ht)
theorem k_tk (C0 : fm_C p s m args meth c G w0 own cc nL ret) (hS : kS G s H locs) {t : Nat} (hT : fm_St "TAKES" fm_tk G.2.2 t s s.heap) {i x : Int32} (hg : tk i = some x) (hdg : decode cc pc = .ok (.iaload, 1))
    (kk : W p l e R s m args below meth c H locs cells slots Q (F0 m (pc + 1) ls (.int x :: rest))) : W p l e R s m args below meth c H locs cells slots Q (F0 m pc ls (.int i :: .ref t :: rest)) := by
  obtain ⟨hi, rfl⟩ := tk_of hg
  exact r_stald C0 hT hS hi hdg kk
theorem k_pt (C0 : fm_C p s m args meth c G w0 own cc nL ret) (hS : kS G s H locs) {t : Nat} (hT : fm_St "PUTS" fm_pt G.2.2 t s s.heap) {i x : Int32} (hg : pt i = some x) (hdg : decode cc pc = .ok (.iaload, 1))
    (kk : W p l e R s m args below meth c H locs cells slots Q (F0 m (pc + 1) ls (.int x :: rest))) : W p l e R s m args below meth c H locs cells slots Q (F0 m pc ls (.int i :: .ref t :: rest)) := by
  obtain ⟨hi, rfl⟩ := pt_of hg
  exact r_stald C0 hT hS hi hdg kk
abbrev kMet (l : Launch) (y : MethodName) (bc : ByteArray) (n : Nat) (rt : Option FieldType) (rm : Room) (G : fm_G) (M : fm_M) (av : List Value) (v : Option Value) (M' : fm_M) : Prop := Met l y (fm_W y bc n rt) rm (fm_Pc G 212 shF M av) (fm_Q G 212 shF v M') 0 0 (fm_A G.2.2)
theorem k_cV0 (C0 : fm_C p s m args meth c G w0 own cc nL ret) {idx : Nat} {C : String} {y : MethodName} {bc : ByteArray} {n : Nat} {rt : Option FieldType} {na : Nat} (hL : fm_LV own idx C y bc n rt na) {rm : Room} {As : List Value} {v : Option Value} (hM : kMet l y bc n rt rm G M (.ref (G.2.2 + q) :: As) v M1) (hrm : rm.cells = 0 ∧ rm.slots = 0) (hR : rm.frames + 1 ≤ R.frames ∧ 8 + (n + 11) + rm.locals ≤ R.locals)
    (hP : kP G M H) (hS : kS G s H locs) {ci : Nat} (hcl : cl q = some ci) (hc : fm_Ly C ci) (hn : As.length = na) (hsz : ls.size = nL) {st0 : List Value} (hst : st0 = As.reverse ++ .ref (G.2.2 + q) :: rest) (hw : (rest.map fun v => v.category).sum ≤ 8) (hdg : decode cc pc = .ok (.invokevirtual idx, 3)) (hf : cells ≤ R.cells ∧ slots ≤ R.slots)
    (kk : ∀ (H1 : Heap) (locs1 : List Loc), kP G M1 H1 → kS G s H1 locs1 → W p l e R s m args below meth c H1 locs1 cells slots Q (F0 m (pc + 3) ls (v.toList ++ rest))) : W p l e R s m args below meth c H locs cells slots Q (F0 m pc ls st0) := by
  obtain ⟨fl, hs, hq⟩ := cl_of hcl
  exact r_callV C0 hL hM hrm hR hP hS hq hs hc hn hsz hst hw hdg hf kk
end ACC
