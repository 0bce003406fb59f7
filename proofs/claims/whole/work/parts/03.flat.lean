/-! the flat memory: cell k lies at base + k; what a cell is (its shape) and what its slots hold (the memory) -/
abbrev fm_Sh : Type := (FieldType × Nat) ⊕ (FieldType × List (Option Nat)) ⊕ (Nat × List (Option (Option Nat)))
abbrev fm_M : Type := (Nat → Nat → Int32) × (Nat → Nat → Int64) × (Nat → Nat → UInt32) × (Nat → Nat → UInt64)
abbrev fm_G : Type := va_G × (FieldType → ClassId) × Nat
def fm_A (b : Nat) : Nat → Prop := fun q => b ≤ q
def fm_vl (b : Nat) (x : Int32) (f : Option (Option Nat)) : Value := match f with
  | none => .int x
  | some none => .null
  | some (some r) => .ref (b + r)
def fm_fv (b : Nat) (I : Nat → Int32) (fl : List (Option (Option Nat))) : List Value := fl.mapIdx (fun j f => fm_vl b (I j) f)
def fm_nv (k : Nat) (ty : FieldType) (M : fm_M) : (Nat → Int32) ⊕ (Nat → Int64) ⊕ (Nat → UInt32) ⊕ (Nat → UInt64) ⊕ (Nat → Option Nat) := match ty with
  | .long => .inr (.inl (M.2.1 k))
  | .float => .inr (.inr (.inl (M.2.2.1 k)))
  | .double => .inr (.inr (.inr (.inl (M.2.2.2 k))))
  | _ => .inl (M.1 k)
def fm_ct (G : fm_G) (k : Nat) (x : fm_Sh) (M : fm_M) : va_E := match x with
  | .inl (ty, n) => .inl (G.2.1 ty, n, fm_nv k ty M)
  | .inr (.inl (ty, rs)) => .inl (G.2.1 ty, rs.length, .inr (.inr (.inr (.inr (fun j => (rs.getD j none).map (fun r => G.2.2 + r))))))
  | .inr (.inr (ci, fl)) => .inr (ci, fm_fv G.2.2 (M.1 k) fl)
def fm_wl (G : fm_G) (N : Nat) (sh : Nat → fm_Sh) (M : fm_M) : va_W := (List.range N).map (fun k => (G.2.2 + k, fm_ct G k (sh k) M))
def fm_P (G : fm_G) (N : Nat) (sh : Nat → fm_Sh) (M : fm_M) (H : Heap) : Prop := va_P G.1 classes (fm_wl G N sh M) H
def fm_tyL : List FieldType := [.int, .boolean, .long, .float, .double, .array .int, .array .long, .object "AllocationProfiler$Method", .object "AllocationProfiler$Strand", .object "AllocationProfiler$Frame"]
def fm_tys (G : fm_G) : List (ClassId × FieldType) := fm_tyL.map (fun t => (G.2.1 t, t))
/-- one slot is set -/
def fm_u {α : Type} (I : Nat → Nat → α) (k j : Nat) (v : α) : Nat → Nat → α := fun i n => if i = k ∧ n = j then v else I i n
def fm_sI (M : fm_M) (k j : Nat) (v : Int32) : fm_M := (fm_u M.1 k j v, M.2)
def fm_sJ (M : fm_M) (k j : Nat) (v : Int64) : fm_M := (M.1, fm_u M.2.1 k j v, M.2.2)
def fm_sF (M : fm_M) (k j : Nat) (v : UInt32) : fm_M := (M.1, M.2.1, fm_u M.2.2.1 k j v, M.2.2.2)
def fm_sD (M : fm_M) (k j : Nat) (v : UInt64) : fm_M := (M.1, M.2.1, M.2.2.1, fm_u M.2.2.2 k j v)
theorem fm_u_ne {α : Type} {I : Nat → Nat → α} {k j i : Nat} {v : α} (h : i ≠ k) : fm_u I k j v i = I i := by
  funext n
  simp [fm_u, h]
theorem fm_u_same {I : Nat → Nat → Int32} {k j : Nat} {v : Int32} : fm_u I k j v k = upd (I k) j v := by
  funext n
  simp [fm_u, upd]
theorem fm_u_sameL {I : Nat → Nat → Int64} {k j : Nat} {v : Int64} : fm_u I k j v k = vp_updL (I k) j v := by
  funext n
  simp [fm_u, vp_updL]
theorem fm_u_sameX {α : Type} {I : Nat → Nat → α} {k j : Nat} {v : α} : fm_u I k j v k = vf_upd (I k) j v := by
  funext n
  simp [fm_u, vf_upd]
theorem fm_get (G : fm_G) (sh : Nat → fm_Sh) (M : fm_M) {N k : Nat} (h : k < N) : (fm_wl G N sh M)[k]? = some (G.2.2 + k, fm_ct G k (sh k) M) := by
  simp [fm_wl, h]
theorem fm_D (G : fm_G) (N : Nat) (sh : Nat → fm_Sh) (M : fm_M) : va_D (fm_A G.2.2) (fm_wl G N sh M) := by
  have key : ∀ (k : Nat) (q : Nat × va_E), (fm_wl G N sh M)[k]? = some q → q.1 = G.2.2 + k := by
    intro k q hk
    have hl : k < N := by
      have := (List.getElem?_eq_some_iff.mp hk).1
      simpa [fm_wl] using this
    rw [fm_get G sh M hl] at hk
    cases hk
    rfl
  refine ⟨fun i j x y hi hj hxy => ?_, fun k q hk => ?_⟩
  · have h1 := key i x hi
    have h2 := key j y hj
    omega
  · rw [key k q hk]
    exact Nat.le_add_right _ _
theorem fm_set (G : fm_G) (sh : Nat → fm_Sh) (M M' : fm_M) {N k : Nat} {e : va_E} (hk : k < N) (he : fm_ct G k (sh k) M' = e) (ho : ∀ i, i ≠ k → fm_ct G i (sh i) M' = fm_ct G i (sh i) M) : (fm_wl G N sh M).set k (G.2.2 + k, e) = fm_wl G N sh M' := by
  apply List.ext_getElem?
  intro i
  by_cases hi : i < N
  · by_cases hik : i = k
    · subst hik
      rw [List.getElem?_set_self (by simpa [fm_wl] using hi), fm_get G sh M' hi, he]
    · rw [List.getElem?_set_ne (Ne.symm hik), fm_get G sh M hi, fm_get G sh M' hi, ho i hik]
  · rw [List.getElem?_eq_none (by simp [fm_wl]; omega), List.getElem?_eq_none (by simp [fm_wl]; omega)]
theorem fm_ct_I {G : fm_G} {x : fm_Sh} {M : fm_M} {k j i : Nat} {v : Int32} (h : i ≠ k) : fm_ct G i x (fm_sI M k j v) = fm_ct G i x M := by
  rcases x with ⟨ty, n⟩ | ⟨ty, rs⟩ | ⟨ci, fl⟩
  · simp only [fm_ct, fm_nv, fm_sI, fm_u_ne h]
  · rfl
  · simp only [fm_ct, fm_sI, fm_u_ne h]
theorem fm_ct_J {G : fm_G} {x : fm_Sh} {M : fm_M} {k j i : Nat} {v : Int64} (h : i ≠ k) : fm_ct G i x (fm_sJ M k j v) = fm_ct G i x M := by
  rcases x with ⟨ty, n⟩ | ⟨ty, rs⟩ | ⟨ci, fl⟩
  · simp only [fm_ct, fm_nv, fm_sJ, fm_u_ne h]
  · rfl
  · rfl
theorem fm_ct_F {G : fm_G} {x : fm_Sh} {M : fm_M} {k j i : Nat} {v : UInt32} (h : i ≠ k) : fm_ct G i x (fm_sF M k j v) = fm_ct G i x M := by
  rcases x with ⟨ty, n⟩ | ⟨ty, rs⟩ | ⟨ci, fl⟩
  · simp only [fm_ct, fm_nv, fm_sF, fm_u_ne h]
  · rfl
  · rfl
theorem fm_ct_D {G : fm_G} {x : fm_Sh} {M : fm_M} {k j i : Nat} {v : UInt64} (h : i ≠ k) : fm_ct G i x (fm_sD M k j v) = fm_ct G i x M := by
  rcases x with ⟨ty, n⟩ | ⟨ty, rs⟩ | ⟨ci, fl⟩
  · simp only [fm_ct, fm_nv, fm_sD, fm_u_ne h]
  · rfl
  · rfl
theorem fm_fv_set {b j : Nat} {I : Nat → Nat → Int32} {q : Nat} {fl : List (Option (Option Nat))} {v : Int32} (h : fl[j]? = some none) : (fm_fv b (I q) fl).set j (.int v) = fm_fv b (fm_u I q j v q) fl := by
  apply List.ext_getElem?
  intro i
  have hl : j < (fm_fv b (I q) fl).length := by
    have := (List.getElem?_eq_some_iff.mp h).1
    simpa [fm_fv] using this
  by_cases hi : i = j
  · subst hi
    rw [List.getElem?_set_self hl]
    simp [fm_fv, h, fm_vl, fm_u]
  · rw [List.getElem?_set_ne (Ne.symm hi)]
    simp [fm_fv, fm_u, hi]
theorem fm_fv_get {b j : Nat} {I : Nat → Int32} {fl : List (Option (Option Nat))} (h : fl[j]? = some none) : (fm_fv b I fl)[j]? = some (.int (I j)) := by
  simp [fm_fv, h, fm_vl]
theorem fm_fv_getr {b j r : Nat} {I : Nat → Int32} {fl : List (Option (Option Nat))} (h : fl[j]? = some (some (some r))) : (fm_fv b I fl)[j]? = some (.ref (b + r)) := by
  simp [fm_fv, h, fm_vl]
/-! what stays true of the tables and of what lies below the base -/
def fm_tk : List Int32 := [0, 0, 1, 2, 2, 2, 1, 1, 0, 1, 1, 0, 1, 1, 1, 1, 0]
def fm_pt : List Int32 := [1, 1, 0, 1, 1, 1, 2, 0, 0, 0, 0, 1, 1, 1, 0, 0, 0]
def fm_St (n : String) (vs : List Int32) (b : Nat) (t : Nat) (U : State) (H : Heap) : Prop := va_Z "AllocationProfiler" n "[I" (.ref t) (fm_A b) U H ∧ va_T .int t vs.length (fun j => .int (vs.getD j 0)) (fm_A b) U H
def fm_S (G : fm_G) (U : State) : Prop := va_K G.1 classes (fm_tys G) U ∧ (∀ w ∈ nW, va_Nw w U) ∧ (∃ t, fm_St "TAKES" fm_tk G.2.2 t U U.heap) ∧ (∃ t, fm_St "PUTS" fm_pt G.2.2 t U U.heap)
theorem fm_nest {w : Cond} {s U : State} (hw : isNest w = true) (hW : s.WarmedH U.vm) (h : va_Nw w s) : va_Nw w U := by
  cases w <;> first | exact va_Nw.warmF hW h | exact va_Nw.warmM hW h | cases hw
theorem fm_nestT {w : Cond} (hw : isNest w = true) : w.onTables = true := by
  cases w <;> first | rfl | cases hw
theorem fm_St.to {n : String} {vs : List Int32} {b t : Nat} {s U : State} {H : Heap} {locs : List Loc} (h : fm_St n vs b t s s.heap) (hW : s.vm.Alike U.vm) (hS : va_S (fm_A b) s.heap H locs) : fm_St n vs b t U H :=
  ⟨va_Z.moved hW (va_Z.kept h.1 hS.2.1), va_T.moved hW (va_T.kept h.2 hS.2.1)⟩
theorem fm_S.to {G : fm_G} {s U : State} {H : Heap} {locs : List Loc} (h : fm_S G s) (hU : U.heap = H) (hW : s.WarmedH U.vm) (hS : va_S (fm_A G.2.2) s.heap H locs) : fm_S G U := by
  obtain ⟨h1, h2, ⟨t1, h3⟩, t2, h4⟩ := h
  refine ⟨va_K.moved hW.alike h1, fun w hw => fm_nest (List.mem_filter.mp hw).2 hW (h2 w hw), ⟨t1, ?_⟩, t2, ?_⟩
  · rw [hU]
    exact h3.to hW.alike hS
  · rw [hU]
    exact h4.to hW.alike hS
theorem fm_S.blind {G : fm_G} {U : State} (g : JFrame) (mk : MethodId) (a : Array Value) (h : fm_S G U) : fm_S G (U.calling g mk a) := by
  obtain ⟨h1, h2, ⟨t1, h3⟩, t2, h4⟩ := h
  exact ⟨va_K.moved (u := U) (U := U.calling g mk a) (Vm.Alike.refl U.vm) h1, fun w hw => va_Nw.same (fm_nestT (List.mem_filter.mp hw).2) (u := U) (U := U.calling g mk a) rfl (h2 w hw),
    ⟨t1, va_Z.moved (u := U) (U := U.calling g mk a) (Vm.Alike.refl U.vm) h3.1, va_T.moved (u := U) (U := U.calling g mk a) (Vm.Alike.refl U.vm) h3.2⟩, t2, va_Z.moved (u := U) (U := U.calling g mk a) (Vm.Alike.refl U.vm) h4.1, va_T.moved (u := U) (U := U.calling g mk a) (Vm.Alike.refl U.vm) h4.2⟩
/-! a method's start and end -/
def fm_Pc (G : fm_G) (N : Nat) (sh : Nat → fm_Sh) (M : fm_M) (av : List Value) : Array Value → State → Prop := fun v U => v = av.toArray ∧ fm_S G U ∧ fm_P G N sh M U.heap
def fm_Q (G : fm_G) (N : Nat) (sh : Nat → fm_Sh) (v : Option Value) (M : fm_M) : Array Value → State → Outcome → State → Prop := fun _ st oc t => oc = .returned v ∧ fm_P G N sh M t.heap ∧ va_F (fm_A G.2.2) st t
theorem fm_blind (G : fm_G) (N : Nat) (sh : Nat → fm_Sh) (M : fm_M) (av : List Value) : FrameBlind (fm_Pc G N sh M av) := fun a U g mk h => ⟨h.1, h.2.1.blind g mk a, h.2.2⟩
def fm_W (y : MethodName) (cc : ByteArray) (n : Nat) (ret : Option FieldType) : List Cond := .code y cc n ret :: gT
/-- what a walk of the method rests on -/
def fm_C (p : Program) (s : State) (m : MethodId) (args : Array Value) (meth : Method) (c : Code) (G : fm_G) (w0 : Cond) (own : String) (cc : ByteArray) (nL : Nat) (ret : Option FieldType) : Prop :=
  p.tables.exec = Jvm.exec ∧ c.code = cc ∧ meth.sig.returnType = ret ∧ c.maxLocals = nL ∧ s.vm.findClass own = some m.cls ∧ (∀ w ∈ w0 :: gT, w.before args s = true) ∧ fm_S G s ∧ meth.locks = false
def fm_F (own : String) (idx ci k : Nat) : Prop := ∃ (C : String) (T : u_T) (N0 : Nat), classes[ci]? = some (C, T, N0) ∧ k < N0 ∧ (∀ w ∈ u_ws C T N0, w ∈ gT) ∧ (T k).1 = C ∧ (Cond.fieldLink own idx C (T k).2.1 (T k).2.2.1 ∈ gT ∨ ∃ host, Cond.fieldLinkNest own idx C (T k).2.1 (T k).2.2.1 host ∈ nW)
def fm_Fp (own : String) (idx ci k : Nat) (ty : FieldType) : Prop := ∃ (C : String) (T : u_T) (N0 : Nat) (t0 : Nat → FieldType), classes[ci]? = some (C, T, N0) ∧ k < N0 ∧ (∀ w ∈ u_ws C T N0, w ∈ gT) ∧ (T k).1 = C ∧ (∀ k, k < N0 → parseFieldDescriptor (T k).2.2.1 = some (t0 k)) ∧ (∀ a, a < N0 → ∀ b, b < N0 → a ≠ b → (T a).2.1 ≠ (T b).2.1) ∧ t0 k = ty ∧ (T k).2.2.2 = false ∧ (Cond.fieldLink own idx C (T k).2.1 (T k).2.2.1 ∈ gT ∨ ∃ host, Cond.fieldLinkNest own idx C (T k).2.1 (T k).2.2.1 host ∈ nW)
section ROWS
variable {p : Program} {l : Launch} {e : Env} {R : Room} {s : State} {m : MethodId} {args : Array Value} {below : List Frame} {meth : Method} {c : Code} {H : Heap} {locs : List Loc} {cells slots : Nat} {Q : State → Prop}
variable {cc : ByteArray} {pc : Nat} {ls : Array Slot} {rest : List Value} {G : fm_G} {N : Nat} {sh : Nat → fm_Sh} {M : fm_M} {q : Nat} {w0 : Cond} {own : String} {nL : Nat} {ret : Option FieldType}
theorem r_get (C0 : fm_C p s m args meth c G w0 own cc nL ret) {idx ci k : Nat} (hF : fm_F own idx ci k) (hP : fm_P G N sh M H) (hq : q < N) {fl : List (Option (Option Nat))} (hs : sh q = .inr (.inr (ci, fl))) {v : Value} (hv : (fm_fv G.2.2 (M.1 q) fl)[k]? = some v) (hdg : decode cc pc = .ok (.getfield idx, 3))
    (kk : W p l e R s m args below meth c H locs cells slots Q (F0 m (pc + 3) ls (v :: rest))) : W p l e R s m args below meth c H locs cells slots Q (F0 m pc ls (.ref (G.2.2 + q) :: rest)) := by
  obtain ⟨hx, hb, -, -, hown, hts, hSx, -⟩ := C0
  obtain ⟨C, T, N0, hc, hk, hin, h1, hl⟩ := hF
  have he : (fm_wl G N sh M)[q]? = some (G.2.2 + q, .inr (ci, fm_fv G.2.2 (M.1 q) fl)) := by
    rw [fm_get G sh M hq, hs]
    rfl
  rcases hl with hl | ⟨host, hl⟩
  · exact va_get (ref := C) hx hb hts (fun w hw => List.mem_cons_of_mem _ (hin w hw)) hown hSx.1 hP q he hc k hk (hts _ (List.mem_cons_of_mem _ hl)) (fun x h => by rw [h1] at h; exact h) hv hdg kk
  · exact va_getN (ref := C) (host := host) hx hb hts (fun w hw => List.mem_cons_of_mem _ (hin w hw)) hown hSx.1 hP q he hc k hk (va_Nw.use rfl (hSx.2.1 _ hl)) (fun x h => by rw [h1] at h; exact h) hv hdg kk
theorem r_put (C0 : fm_C p s m args meth c G w0 own cc nL ret) {idx ci k : Nat} {ty : FieldType} (hF : fm_Fp own idx ci k ty) (hP : fm_P G N sh M H) (hS : va_S (fm_A G.2.2) s.heap H locs) (hq : q < N) {fl : List (Option (Option Nat))} (hs : sh q = .inr (.inr (ci, fl))) (hf : fl[k]? = some none) {v : Int32} (hn : narrow ty (.int v) = .int v) (hfit : fits ty (.int v) = true) (hdg : decode cc pc = .ok (.putfield idx, 3))
    (kk : ∀ (H1 : Heap) (locs1 : List Loc), fm_P G N sh (fm_sI M q k v) H1 → va_S (fm_A G.2.2) s.heap H1 locs1 → W p l e R s m args below meth c H1 locs1 cells slots Q (F0 m (pc + 3) ls rest)) : W p l e R s m args below meth c H locs cells slots Q (F0 m pc ls (.int v :: .ref (G.2.2 + q) :: rest)) := by
  obtain ⟨hx, hb, -, -, hown, hts, hSx, -⟩ := C0
  obtain ⟨C, T, N0, t0, hc, hk, hin, h1, hty, hnm, ht, hfin, hl⟩ := hF
  have he : (fm_wl G N sh M)[q]? = some (G.2.2 + q, .inr (ci, fm_fv G.2.2 (M.1 q) fl)) := by
    rw [fm_get G sh M hq, hs]
    rfl
  have hlen : k < (fm_fv G.2.2 (M.1 q) fl).length := by
    have := (List.getElem?_eq_some_iff.mp hf).1
    simpa [fm_fv] using this
  have hset : (fm_wl G N sh M).set q (G.2.2 + q, .inr (ci, (fm_fv G.2.2 (M.1 q) fl).set k (.int v))) = fm_wl G N sh (fm_sI M q k v) := by
    refine fm_set G sh M _ hq ?_ (fun i hi => fm_ct_I hi)
    rw [hs, fm_fv_set hf]
    rfl
  have hd : parseFieldDescriptor (T k).2.2.1 = some ty := by rw [hty k hk, ht]
  have kk' : ∀ (H1 : Heap) (locs1 : List Loc), va_P G.1 classes ((fm_wl G N sh M).set q (G.2.2 + q, .inr (ci, (fm_fv G.2.2 (M.1 q) fl).set k (.int v)))) H1 → va_D (fm_A G.2.2) ((fm_wl G N sh M).set q (G.2.2 + q, .inr (ci, (fm_fv G.2.2 (M.1 q) fl).set k (.int v)))) → va_S (fm_A G.2.2) s.heap H1 locs1 → W p l e R s m args below meth c H1 locs1 cells slots Q (F0 m (pc + 3) ls rest) := by
    intro H1 locs1 g1 _ g3
    rw [hset] at g1
    exact kk H1 locs1 g1 g3
  rcases hl with hl | ⟨host, hl⟩
  · exact va_put (ref := C) hx hb hts (fun w hw => List.mem_cons_of_mem _ (hin w hw)) t0 hty hnm hown hSx.1 hP (fm_D G N sh M) hS q he hc k hk (hts _ (List.mem_cons_of_mem _ hl)) (fun x h => by rw [h1] at h; exact h) hfin hd hn hfit hlen hdg kk'
  · exact va_putN (ref := C) (host := host) hx hb hts (fun w hw => List.mem_cons_of_mem _ (hin w hw)) t0 hty hnm hown hSx.1 hP (fm_D G N sh M) hS q he hc k hk (va_Nw.use rfl (hSx.2.1 _ hl)) (fun x h => by rw [h1] at h; exact h) hfin hd hn hfit hlen hdg kk'
theorem r_in {i : Int32} {n : Nat} (h : 0 ≤ i.toInt ∧ i.toInt < n) : vp_in i n := vp_in_iff.mpr h
theorem r_iald (C0 : fm_C p s m args meth c G w0 own cc nL ret) (hP : fm_P G N sh M H) (hq : q < N) {n : Nat} (hs : sh q = .inl (.int, n)) {i : Int32} (hin : 0 ≤ i.toInt ∧ i.toInt < n) (hdg : decode cc pc = .ok (.iaload, 1))
    (kk : W p l e R s m args below meth c H locs cells slots Q (F0 m (pc + 1) ls (.int (M.1 q i.toInt.toNat) :: rest))) : W p l e R s m args below meth c H locs cells slots Q (F0 m pc ls (.int i :: .ref (G.2.2 + q) :: rest)) :=
  va_iald C0.1 C0.2.1 C0.2.2.2.2.2.2.1.1 hP q 0 (by rw [fm_get G sh M hq, hs]; rfl) (ht := rfl) (r_in hin) hdg kk
theorem r_zald (C0 : fm_C p s m args meth c G w0 own cc nL ret) (hP : fm_P G N sh M H) (hq : q < N) {n : Nat} (hs : sh q = .inl (.boolean, n)) {i : Int32} (hin : 0 ≤ i.toInt ∧ i.toInt < n) (hdg : decode cc pc = .ok (.baload, 1))
    (kk : W p l e R s m args below meth c H locs cells slots Q (F0 m (pc + 1) ls (.int (M.1 q i.toInt.toNat) :: rest))) : W p l e R s m args below meth c H locs cells slots Q (F0 m pc ls (.int i :: .ref (G.2.2 + q) :: rest)) :=
  va_zald C0.1 C0.2.1 C0.2.2.2.2.2.2.1.1 hP q 1 (by rw [fm_get G sh M hq, hs]; rfl) (ht := rfl) (r_in hin) hdg kk
theorem r_lald (C0 : fm_C p s m args meth c G w0 own cc nL ret) (hP : fm_P G N sh M H) (hq : q < N) {n : Nat} (hs : sh q = .inl (.long, n)) {i : Int32} (hin : 0 ≤ i.toInt ∧ i.toInt < n) (hdg : decode cc pc = .ok (.laload, 1))
    (kk : W p l e R s m args below meth c H locs cells slots Q (F0 m (pc + 1) ls (.long (M.2.1 q i.toInt.toNat) :: rest))) : W p l e R s m args below meth c H locs cells slots Q (F0 m pc ls (.int i :: .ref (G.2.2 + q) :: rest)) :=
  va_lald C0.1 C0.2.1 C0.2.2.2.2.2.2.1.1 hP q 2 (by rw [fm_get G sh M hq, hs]; rfl) (ht := rfl) (r_in hin) hdg kk
theorem r_fald (C0 : fm_C p s m args meth c G w0 own cc nL ret) (hP : fm_P G N sh M H) (hq : q < N) {n : Nat} (hs : sh q = .inl (.float, n)) {i : Int32} (hin : 0 ≤ i.toInt ∧ i.toInt < n) (hdg : decode cc pc = .ok (.faload, 1))
    (kk : W p l e R s m args below meth c H locs cells slots Q (F0 m (pc + 1) ls (.float (M.2.2.1 q i.toInt.toNat) :: rest))) : W p l e R s m args below meth c H locs cells slots Q (F0 m pc ls (.int i :: .ref (G.2.2 + q) :: rest)) :=
  va_fald C0.1 C0.2.1 C0.2.2.2.2.2.2.1.1 hP q 3 (by rw [fm_get G sh M hq, hs]; rfl) (ht := rfl) (r_in hin) hdg kk
theorem r_dald (C0 : fm_C p s m args meth c G w0 own cc nL ret) (hP : fm_P G N sh M H) (hq : q < N) {n : Nat} (hs : sh q = .inl (.double, n)) {i : Int32} (hin : 0 ≤ i.toInt ∧ i.toInt < n) (hdg : decode cc pc = .ok (.daload, 1))
    (kk : W p l e R s m args below meth c H locs cells slots Q (F0 m (pc + 1) ls (.double (M.2.2.2 q i.toInt.toNat) :: rest))) : W p l e R s m args below meth c H locs cells slots Q (F0 m pc ls (.int i :: .ref (G.2.2 + q) :: rest)) :=
  va_dald C0.1 C0.2.1 C0.2.2.2.2.2.2.1.1 hP q 4 (by rw [fm_get G sh M hq, hs]; rfl) (ht := rfl) (r_in hin) hdg kk
end ROWS
