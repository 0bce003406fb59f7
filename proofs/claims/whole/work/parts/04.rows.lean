/-! rows of the flat memory: stores, lengths, references, statics, calls, ends -/
def fm_LV (own : String) (idx : Nat) (C : String) (y : MethodName) (bc : ByteArray) (n : Nat) (ret : Option FieldType) (na : Nat) : Prop :=
  (Cond.methodLink own idx y ∈ gT ∧ Cond.instanceMethod y ∈ gT ∧ Cond.selects C y y ∈ gT ∧ Cond.initialized C ∈ gT ∧ Cond.code y bc n ret ∈ gT) ∧ (y.cls = C ∧ y.cls ≠ "java/lang/invoke/MethodHandle" ∧ y.cls ≠ "java/lang/invoke/VarHandle" ∧ (parseMethodDescriptor y.desc).map (fun d => d.parameters.length) = some na)
def fm_LS (own : String) (idx : Nat) (y : MethodName) (bc : ByteArray) (n : Nat) (ret : Option FieldType) (na : Nat) : Prop :=
  (Cond.methodLink own idx y ∈ gT ∧ Cond.static y ∈ gT ∧ Cond.initialized y.cls ∈ gT ∧ Cond.code y bc n ret ∈ gT) ∧ (y.cls ≠ "java/lang/invoke/MethodHandle" ∧ y.cls ≠ "java/lang/invoke/VarHandle" ∧ (parseMethodDescriptor y.desc).map (fun d => d.parameters.length) = some na)
def fm_LSN (own : String) (idx : Nat) (host : String) (y : MethodName) (bc : ByteArray) (n : Nat) (ret : Option FieldType) (na : Nat) : Prop :=
  (Cond.methodLinkNest own idx y host ∈ nW ∧ Cond.static y ∈ gT ∧ Cond.initialized y.cls ∈ gT ∧ Cond.code y bc n ret ∈ gT) ∧ (y.cls ≠ "java/lang/invoke/MethodHandle" ∧ y.cls ≠ "java/lang/invoke/VarHandle" ∧ (parseMethodDescriptor y.desc).map (fun d => d.parameters.length) = some na)
theorem fm_in {w0 w : Cond} (h : w ∈ gT) : w ∈ w0 :: gT ∧ ((w.onTables && w.keeps) = true ∨ ∃ ty, w = .arrayClass ty) := ⟨List.mem_cons_of_mem _ h, gT_good h⟩
theorem fm_good {w0 : Cond} {y : MethodName} {bc : ByteArray} {n : Nat} {ret : Option FieldType} (h : Cond.code y bc n ret ∈ gT) : GoodIn (w0 :: gT) (fm_W y bc n ret) := fun w hw => (List.mem_cons.mp hw).elim (fun e => by rw [e]; exact fm_in h) (fun h => fm_in h)
theorem fm_goodV {w0 : Cond} {own C : String} {idx : Nat} {y : MethodName} {bc : ByteArray} {n : Nat} {ret : Option FieldType} {na : Nat} (h : fm_LV own idx C y bc n ret na) : GoodIn (w0 :: gT) (wsV own idx C y (fm_W y bc n ret)) := by
  obtain ⟨⟨h1, h2, h3, h4, h5⟩, -⟩ := h
  intro w hw
  unfold wsV at hw
  rcases List.mem_append.mp hw with hw | hw
  · simp only [List.mem_cons, List.not_mem_nil, or_false] at hw
    rcases hw with e | e | e | e <;> rw [e]
    · exact fm_in h1
    · exact fm_in h2
    · exact fm_in h3
    · exact fm_in h4
  · exact fm_good h5 w hw
theorem fm_goodS {w0 : Cond} {own : String} {idx : Nat} {y : MethodName} {bc : ByteArray} {n : Nat} {ret : Option FieldType} {na : Nat} (h : fm_LS own idx y bc n ret na) : GoodIn (w0 :: gT) (va_wsS own idx y (fm_W y bc n ret)) := by
  obtain ⟨⟨h1, h2, h3, h4⟩, -⟩ := h
  intro w hw
  unfold va_wsS at hw
  rcases List.mem_append.mp hw with hw | hw
  · simp only [List.mem_cons, List.not_mem_nil, or_false] at hw
    rcases hw with e | e | e <;> rw [e]
    · exact fm_in h1
    · exact fm_in h2
    · exact fm_in h3
  · exact fm_good h4 w hw
def fm_Ly (C : String) (ci : Nat) : Prop := ∃ (T : u_T) (N0 : Nat), classes[ci]? = some (C, T, N0)
section ROWS
variable {p : Program} {l : Launch} {e : Env} {R : Room} {s : State} {m : MethodId} {args : Array Value} {below : List Frame} {meth : Method} {c : Code} {H : Heap} {locs : List Loc} {cells slots : Nat} {Q : State → Prop}
variable {cc : ByteArray} {pc : Nat} {ls : Array Slot} {rest : List Value} {G : fm_G} {N : Nat} {sh : Nat → fm_Sh} {M : fm_M} {q : Nat} {w0 : Cond} {own : String} {nL : Nat} {ret : Option FieldType}
theorem r_iast (C0 : fm_C p s m args meth c G w0 own cc nL ret) (hP : fm_P G N sh M H) (hS : va_S (fm_A G.2.2) s.heap H locs) (hq : q < N) {n : Nat} (hs : sh q = .inl (.int, n)) {i v : Int32} (hin : 0 ≤ i.toInt ∧ i.toInt < n) (hdg : decode cc pc = .ok (.iastore, 1))
    (kk : ∀ (H1 : Heap) (locs1 : List Loc), fm_P G N sh (fm_sI M q i.toInt.toNat v) H1 → va_S (fm_A G.2.2) s.heap H1 locs1 → W p l e R s m args below meth c H1 locs1 cells slots Q (F0 m (pc + 1) ls rest)) : W p l e R s m args below meth c H locs cells slots Q (F0 m pc ls (.int v :: .int i :: .ref (G.2.2 + q) :: rest)) := by
  refine va_iast C0.1 C0.2.1 C0.2.2.2.2.2.2.1.1 hP (fm_D G N sh M) hS q 0 (by rw [fm_get G sh M hq, hs]; rfl) (ht := rfl) (r_in hin) hdg (fun H1 locs1 g1 _ g3 => kk H1 locs1 ?_ g3)
  rw [fm_set G sh M (fm_sI M q i.toInt.toNat v) hq (by rw [hs]; simp only [fm_ct, fm_nv, fm_sI, fm_u_same]; rfl) (fun i hi => fm_ct_I hi)] at g1
  exact g1
theorem r_zast (C0 : fm_C p s m args meth c G w0 own cc nL ret) (hP : fm_P G N sh M H) (hS : va_S (fm_A G.2.2) s.heap H locs) (hq : q < N) {n : Nat} (hs : sh q = .inl (.boolean, n)) {i v : Int32} (hin : 0 ≤ i.toInt ∧ i.toInt < n) (hv : vp_nar .boolean v = v) (hdg : decode cc pc = .ok (.bastore, 1))
    (kk : ∀ (H1 : Heap) (locs1 : List Loc), fm_P G N sh (fm_sI M q i.toInt.toNat v) H1 → va_S (fm_A G.2.2) s.heap H1 locs1 → W p l e R s m args below meth c H1 locs1 cells slots Q (F0 m (pc + 1) ls rest)) : W p l e R s m args below meth c H locs cells slots Q (F0 m pc ls (.int v :: .int i :: .ref (G.2.2 + q) :: rest)) := by
  refine va_zast C0.1 C0.2.1 C0.2.2.2.2.2.2.1.1 hP (fm_D G N sh M) hS q 1 (by rw [fm_get G sh M hq, hs]; rfl) (ht := rfl) (r_in hin) hdg (fun H1 locs1 g1 _ g3 => kk H1 locs1 ?_ g3)
  rw [hv, fm_set G sh M (fm_sI M q i.toInt.toNat v) hq (by rw [hs]; simp only [fm_ct, fm_nv, fm_sI, fm_u_same]; rfl) (fun i hi => fm_ct_I hi)] at g1
  exact g1
theorem r_last (C0 : fm_C p s m args meth c G w0 own cc nL ret) (hP : fm_P G N sh M H) (hS : va_S (fm_A G.2.2) s.heap H locs) (hq : q < N) {n : Nat} (hs : sh q = .inl (.long, n)) {i : Int32} {v : Int64} (hin : 0 ≤ i.toInt ∧ i.toInt < n) (hdg : decode cc pc = .ok (.lastore, 1))
    (kk : ∀ (H1 : Heap) (locs1 : List Loc), fm_P G N sh (fm_sJ M q i.toInt.toNat v) H1 → va_S (fm_A G.2.2) s.heap H1 locs1 → W p l e R s m args below meth c H1 locs1 cells slots Q (F0 m (pc + 1) ls rest)) : W p l e R s m args below meth c H locs cells slots Q (F0 m pc ls (.long v :: .int i :: .ref (G.2.2 + q) :: rest)) := by
  refine va_last C0.1 C0.2.1 C0.2.2.2.2.2.2.1.1 hP (fm_D G N sh M) hS q 2 (by rw [fm_get G sh M hq, hs]; rfl) (ht := rfl) (r_in hin) hdg (fun H1 locs1 g1 _ g3 => kk H1 locs1 ?_ g3)
  rw [fm_set G sh M (fm_sJ M q i.toInt.toNat v) hq (by rw [hs]; simp only [fm_ct, fm_nv, fm_sJ, fm_u_sameL]; rfl) (fun i hi => fm_ct_J hi)] at g1
  exact g1
theorem r_fast (C0 : fm_C p s m args meth c G w0 own cc nL ret) (hP : fm_P G N sh M H) (hS : va_S (fm_A G.2.2) s.heap H locs) (hq : q < N) {n : Nat} (hs : sh q = .inl (.float, n)) {i : Int32} {v : UInt32} (hin : 0 ≤ i.toInt ∧ i.toInt < n) (hdg : decode cc pc = .ok (.fastore, 1))
    (kk : ∀ (H1 : Heap) (locs1 : List Loc), fm_P G N sh (fm_sF M q i.toInt.toNat v) H1 → va_S (fm_A G.2.2) s.heap H1 locs1 → W p l e R s m args below meth c H1 locs1 cells slots Q (F0 m (pc + 1) ls rest)) : W p l e R s m args below meth c H locs cells slots Q (F0 m pc ls (.float v :: .int i :: .ref (G.2.2 + q) :: rest)) := by
  refine va_fast C0.1 C0.2.1 C0.2.2.2.2.2.2.1.1 hP (fm_D G N sh M) hS q 3 (by rw [fm_get G sh M hq, hs]; rfl) (ht := rfl) (r_in hin) hdg (fun H1 locs1 g1 _ g3 => kk H1 locs1 ?_ g3)
  rw [fm_set G sh M (fm_sF M q i.toInt.toNat v) hq (by rw [hs]; simp only [fm_ct, fm_nv, fm_sF, fm_u_sameX]; rfl) (fun i hi => fm_ct_F hi)] at g1
  exact g1
theorem r_dast (C0 : fm_C p s m args meth c G w0 own cc nL ret) (hP : fm_P G N sh M H) (hS : va_S (fm_A G.2.2) s.heap H locs) (hq : q < N) {n : Nat} (hs : sh q = .inl (.double, n)) {i : Int32} {v : UInt64} (hin : 0 ≤ i.toInt ∧ i.toInt < n) (hdg : decode cc pc = .ok (.dastore, 1))
    (kk : ∀ (H1 : Heap) (locs1 : List Loc), fm_P G N sh (fm_sD M q i.toInt.toNat v) H1 → va_S (fm_A G.2.2) s.heap H1 locs1 → W p l e R s m args below meth c H1 locs1 cells slots Q (F0 m (pc + 1) ls rest)) : W p l e R s m args below meth c H locs cells slots Q (F0 m pc ls (.double v :: .int i :: .ref (G.2.2 + q) :: rest)) := by
  refine va_dast C0.1 C0.2.1 C0.2.2.2.2.2.2.1.1 hP (fm_D G N sh M) hS q 4 (by rw [fm_get G sh M hq, hs]; rfl) (ht := rfl) (r_in hin) hdg (fun H1 locs1 g1 _ g3 => kk H1 locs1 ?_ g3)
  rw [fm_set G sh M (fm_sD M q i.toInt.toNat v) hq (by rw [hs]; simp only [fm_ct, fm_nv, fm_sD, fm_u_sameX]; rfl) (fun i hi => fm_ct_D hi)] at g1
  exact g1
theorem r_alen (C0 : fm_C p s m args meth c G w0 own cc nL ret) (hP : fm_P G N sh M H) (hq : q < N) {ty : FieldType} {n t0 : Nat} (hs : sh q = .inl (ty, n)) (ht : fm_tyL[t0]? = some ty) (hdg : decode cc pc = .ok (.arraylength, 1))
    (kk : W p l e R s m args below meth c H locs cells slots Q (F0 m (pc + 1) ls (.int (Int32.ofNat n) :: rest))) : W p l e R s m args below meth c H locs cells slots Q (F0 m pc ls (.ref (G.2.2 + q) :: rest)) :=
  va_alen C0.1 C0.2.1 C0.2.2.2.2.2.2.1.1 hP q t0 (cA := G.2.1 ty) (ty := ty) (x := (n, fm_nv q ty M)) (by rw [fm_get G sh M hq, hs]; rfl) (by simp [fm_tys, ht]) rfl hdg kk
theorem r_aald (C0 : fm_C p s m args meth c G w0 own cc nL ret) (hP : fm_P G N sh M H) (hq : q < N) {ty : FieldType} {rs : List (Option Nat)} {t0 : Nat} (hs : sh q = .inr (.inl (ty, rs))) (ht : fm_tyL[t0]? = some ty) (hr : ty.isReference = true) {i : Int32} {r : Nat} (hin : 0 ≤ i.toInt ∧ i.toInt < rs.length) (hv : rs[i.toInt.toNat]? = some (some r)) (hdg : decode cc pc = .ok (.aaload, 1))
    (kk : W p l e R s m args below meth c H locs cells slots Q (F0 m (pc + 1) ls (.ref (G.2.2 + r) :: rest))) : W p l e R s m args below meth c H locs cells slots Q (F0 m pc ls (.int i :: .ref (G.2.2 + q) :: rest)) := by
  have he : (fm_wl G N sh M)[q]? = some (G.2.2 + q, .inl (G.2.1 ty, rs.length, .inr (.inr (.inr (.inr (fun j => (rs.getD j none).map (fun r => G.2.2 + r))))))) := by
    rw [fm_get G sh M hq, hs]
    rfl
  have hT : (fm_tys G)[t0]? = some (G.2.1 ty, ty) := by simp [fm_tys, ht]
  have hlt : i.toNatClampNeg < rs.length := by
    show i.toInt.toNat < rs.length
    omega
  refine W.aald (v := .ref (G.2.2 + r)) (ty := ty) C0.1 C0.2.1 (hP q _ he) ((C0.2.2.2.2.2.2.1.1.2 t0 _ hT).1 rs.length (fun j => va_rf ((rs.getD j none).map (fun r => G.2.2 + r)))) hr (fun q => by cases q) (by show ¬ (i < 0 ∨ (arrV _ _ _).slots.size ≤ _); rw [arrV_size]; exact r_in hin) ?_ rfl rfl hdg kk
  show (arrV _ _ _).slots[_]? = _
  rw [arrV_read _ _ hlt]
  have h2 : rs.getD i.toNatClampNeg none = some r := by
    rw [List.getD_eq_getElem?_getD, show i.toNatClampNeg = i.toInt.toNat from rfl, hv]
    rfl
  simp only [h2]
  rfl
/-- a call that has been run: the memory behind it -/
theorem r_call {mc ms : Nat} {st0 : List Value} {v : Option Value} {M' : fm_M} {a : Array Value} (hr : va_Run p l e R s m args below meth c H locs cells slots mc ms (F0 m pc ls st0) rest (fm_Q G N sh v M' a) (fm_A G.2.2)) (hS : va_S (fm_A G.2.2) s.heap H locs)
    (kk : ∀ (H1 : Heap) (locs1 : List Loc), fm_P G N sh M' H1 → va_S (fm_A G.2.2) s.heap H1 locs1 → W p l e R s m args below meth c H1 locs1 (cells + mc) (slots + ms) Q (F0 m (pc + 3) ls (v.toList ++ rest))) : W p l e R s m args below meth c H locs cells slots Q (F0 m pc ls st0) := by
  intro T hT X
  obtain ⟨v', st₀, t, T', L, h0, X', hL, e1, e2, ⟨hv, hP1, hz, hk⟩, st⟩ := hr T hT X
  cases hv
  rw [h0] at hz hk
  obtain ⟨t2, a1, b1⟩ := kk T'.heap (locs ++ L) (by rw [e1]; exact hP1) ⟨Nat.le_trans hS.1 (by rw [e1]; exact hz), fun q h1 h2 => by rw [e1, hk q (Nat.lt_of_lt_of_le h1 hS.1) h2]; exact hS.2.1 q h1 h2, fun q hq => by
      rcases List.mem_append.mp hq with h | h
      · exact hS.2.2 q h
      · exact hL q h⟩ T' rfl X'
  exact ⟨t2, st t2 a1, b1⟩
theorem r_callV (C0 : fm_C p s m args meth c G w0 own cc nL ret) {idx : Nat} {C : String} {y : MethodName} {bc : ByteArray} {n : Nat} {rt : Option FieldType} {na : Nat} (hL : fm_LV own idx C y bc n rt na) {rm : Room} {As : List Value} {M' : fm_M} {v : Option Value} (hM : Met l y (fm_W y bc n rt) rm (fm_Pc G N sh M (.ref (G.2.2 + q) :: As)) (fm_Q G N sh v M') 0 0 (fm_A G.2.2)) (hrm : rm.cells = 0 ∧ rm.slots = 0) (hR : rm.frames + 1 ≤ R.frames ∧ 8 + (n + 11) + rm.locals ≤ R.locals)
    (hP : fm_P G N sh M H) (hS : va_S (fm_A G.2.2) s.heap H locs) {ci : Nat} {fl : List (Option (Option Nat))} (hq : q < N) (hs : sh q = .inr (.inr (ci, fl))) (hc : fm_Ly C ci) (hn : As.length = na) (hsz : ls.size = nL) {st0 : List Value} (hst : st0 = As.reverse ++ .ref (G.2.2 + q) :: rest) (hw : (rest.map fun v => v.category).sum ≤ 8) (hdg : decode cc pc = .ok (.invokevirtual idx, 3)) (hf : cells ≤ R.cells ∧ slots ≤ R.slots)
    (kk : ∀ (H1 : Heap) (locs1 : List Loc), fm_P G N sh M' H1 → va_S (fm_A G.2.2) s.heap H1 locs1 → W p l e R s m args below meth c H1 locs1 cells slots Q (F0 m (pc + 3) ls (v.toList ++ rest))) : W p l e R s m args below meth c H locs cells slots Q (F0 m pc ls st0) := by
  obtain ⟨hx, hb, -, hml, hown, hts, hSx, -⟩ := C0
  obtain ⟨T, N0, hc⟩ := hc
  have he : (fm_wl G N sh M)[q]? = some (G.2.2 + q, .inr (ci, fm_fv G.2.2 (M.1 q) fl)) := by
    rw [fm_get G sh M hq, hs]
    rfl
  exact r_call (mc := 0) (ms := 0) (va_runV (As := As) (rest := rest) (b := G.2.2 + q) ⟨hx, hb, hml, hown, hts⟩ hM (cwV na hts (fm_goodV hL) rfl hrm.1 hrm.2 hL.2 hR) ⟨fm_blind G N sh M _, va_recv hSx.1 hP hc he, fun U hU hW => ⟨rfl, hSx.to hU hW hS, by rw [hU]; exact hP⟩⟩ rfl hn hsz hst (by show 2 * 0 + _ ≤ 8; omega) hdg hf) hS kk
theorem r_callS (C0 : fm_C p s m args meth c G w0 own cc nL ret) {idx : Nat} {y : MethodName} {bc : ByteArray} {n : Nat} {rt : Option FieldType} {na : Nat} (hL : fm_LS own idx y bc n rt na) {rm : Room} {As : List Value} {M' : fm_M} {v : Option Value} (hM : Met l y (fm_W y bc n rt) rm (fm_Pc G N sh M As) (fm_Q G N sh v M') 0 0 (fm_A G.2.2)) (hrm : rm.cells = 0 ∧ rm.slots = 0) (hR : rm.frames + 1 ≤ R.frames ∧ 8 + (n + 11) + rm.locals ≤ R.locals)
    (hP : fm_P G N sh M H) (hS : va_S (fm_A G.2.2) s.heap H locs) (hn : As.length = na) (hsz : ls.size = nL) {st0 : List Value} (hst : st0 = As.reverse ++ rest) (hw : (rest.map fun v => v.category).sum ≤ 8) (hdg : decode cc pc = .ok (.invokestatic idx, 3)) (hf : cells ≤ R.cells ∧ slots ≤ R.slots)
    (kk : ∀ (H1 : Heap) (locs1 : List Loc), fm_P G N sh M' H1 → va_S (fm_A G.2.2) s.heap H1 locs1 → W p l e R s m args below meth c H1 locs1 cells slots Q (F0 m (pc + 3) ls (v.toList ++ rest))) : W p l e R s m args below meth c H locs cells slots Q (F0 m pc ls st0) := by
  obtain ⟨hx, hb, -, hml, hown, hts, hSx, -⟩ := C0
  exact r_call (mc := 0) (ms := 0) (va_runS (As := As) (rest := rest) ⟨hx, hb, hml, hown, hts⟩ hM (va_cwS na hts (fm_goodS hL) rfl hrm.1 hrm.2 hL.2 hR) ⟨fm_blind G N sh M _, fun U hU hW => ⟨rfl, hSx.to hU hW hS, by rw [hU]; exact hP⟩⟩ rfl hn hsz hst (by show 2 * 0 + _ ≤ 8; omega) hdg hf) hS kk
theorem r_callSN (C0 : fm_C p s m args meth c G w0 own cc nL ret) {idx : Nat} {host : String} {y : MethodName} {bc : ByteArray} {n : Nat} {rt : Option FieldType} {na : Nat} (hL : fm_LSN own idx host y bc n rt na) {rm : Room} {As : List Value} {M' : fm_M} {v : Option Value} (hM : Met l y (fm_W y bc n rt) rm (fm_Pc G N sh M As) (fm_Q G N sh v M') 0 0 (fm_A G.2.2)) (hrm : rm.cells = 0 ∧ rm.slots = 0) (hR : rm.frames + 1 ≤ R.frames ∧ 8 + (n + 11) + rm.locals ≤ R.locals)
    (hP : fm_P G N sh M H) (hS : va_S (fm_A G.2.2) s.heap H locs) (hn : As.length = na) (hsz : ls.size = nL) {st0 : List Value} (hst : st0 = As.reverse ++ rest) (hw : (rest.map fun v => v.category).sum ≤ 8) (hdg : decode cc pc = .ok (.invokestatic idx, 3)) (hf : cells ≤ R.cells ∧ slots ≤ R.slots)
    (kk : ∀ (H1 : Heap) (locs1 : List Loc), fm_P G N sh M' H1 → va_S (fm_A G.2.2) s.heap H1 locs1 → W p l e R s m args below meth c H1 locs1 cells slots Q (F0 m (pc + 3) ls (v.toList ++ rest))) : W p l e R s m args below meth c H locs cells slots Q (F0 m pc ls st0) := by
  obtain ⟨hx, hb, -, hml, hown, hts, hSx, -⟩ := C0
  obtain ⟨⟨h1, h2, h3, h4⟩, hd⟩ := hL
  exact r_call (mc := 0) (ms := 0) (va_runSN (As := As) (rest := rest) (host := host) ⟨hx, hb, hml, hown, hts⟩ hM ⟨va_cnB na hts (fm_good h4) rfl hrm.1 hrm.2 (hSx.2.1 _ h1) (hts _ (List.mem_cons_of_mem _ h3)) hd hR, hts _ (List.mem_cons_of_mem _ h2), trivial⟩ ⟨fm_blind G N sh M _, fun U hU hW => ⟨rfl, hSx.to hU hW hS, by rw [hU]; exact hP⟩⟩ rfl hn hsz hst (by show 2 * 0 + _ ≤ 8; omega) hdg hf) hS kk
/-- TAKES and PUTS -/
theorem r_sta (C0 : fm_C p s m args meth c G w0 own cc nL ret) {n : String} {vs : List Int32} {t : Nat} (hT : fm_St n vs G.2.2 t s s.heap) (hS : va_S (fm_A G.2.2) s.heap H locs) {idx : Nat} (hl : Cond.fieldLink own idx "AllocationProfiler" n "[I" ∈ gT ∨ ∃ host, Cond.fieldLinkNest own idx "AllocationProfiler" n "[I" host ∈ nW) (hdg : decode cc pc = .ok (.getstatic idx, 3))
    (kk : W p l e R s m args below meth c H locs cells slots Q (F0 m (pc + 3) ls (.ref t :: rest))) : W p l e R s m args below meth c H locs cells slots Q (F0 m pc ls rest) := by
  obtain ⟨hx, hb, -, -, hown, hts, hSx, -⟩ := C0
  rcases hl with hl | ⟨host, hl⟩
  · exact va_gets hx hb hT.1 hS hown (hts _ (List.mem_cons_of_mem _ hl)) (fun _ h => h) hdg kk
  · exact va_getsN hx hb hT.1 hS hown (va_Nw.use rfl (hSx.2.1 _ hl)) (fun _ h => h) hdg kk
theorem r_stald (C0 : fm_C p s m args meth c G w0 own cc nL ret) {n : String} {vs : List Int32} {t : Nat} (hT : fm_St n vs G.2.2 t s s.heap) (hS : va_S (fm_A G.2.2) s.heap H locs) {i : Int32} (hin : 0 ≤ i.toInt ∧ i.toInt < vs.length) (hdg : decode cc pc = .ok (.iaload, 1))
    (kk : W p l e R s m args below meth c H locs cells slots Q (F0 m (pc + 1) ls (.int (vs.getD i.toInt.toNat 0) :: rest))) : W p l e R s m args below meth c H locs cells slots Q (F0 m pc ls (.int i :: .ref t :: rest)) :=
  va_ti C0.1 C0.2.1 hT.2 hS (r_in hin) (v := .int (vs.getD i.toInt.toNat 0)) rfl hdg kk
/-! ends -/
theorem r_end {v : Option Value} (hP : fm_P G N sh M H) (hS : va_S (fm_A G.2.2) s.heap H locs) : ∀ t : State, t.heap = H → s.WarmedH t.vm → fm_Q G N sh v M args s (.returned v) t := fun t ht _ => ⟨rfl, by rw [ht]; exact hP, hS.F ht⟩
theorem r_iret (C0 : fm_C p s m args meth c G w0 own cc nL (some .int)) (hP : fm_P G N sh M H) (hS : va_S (fm_A G.2.2) s.heap H locs) {v : Int32} (hdg : decode cc pc = .ok (.ireturn, 1)) : W p l e R s m args below meth c H locs cells slots (MQ below (fm_Q G N sh (some (.int v)) M) args s cells slots (fm_A G.2.2)) (F0 m pc ls [.int v]) :=
  W.iret C0.1 C0.2.1 C0.2.2.1 (r_end hP hS) hS.2.2 hdg C0.2.2.2.2.2.2.2
theorem r_zret (C0 : fm_C p s m args meth c G w0 own cc nL (some .boolean)) (hP : fm_P G N sh M H) (hS : va_S (fm_A G.2.2) s.heap H locs) {v : Int32} (hv : v = 0 ∨ v = 1) (hdg : decode cc pc = .ok (.ireturn, 1)) : W p l e R s m args below meth c H locs cells slots (MQ below (fm_Q G N sh (some (.int v)) M) args s cells slots (fm_A G.2.2)) (F0 m pc ls [.int v]) :=
  W.zret C0.1 C0.2.1 C0.2.2.1 (by rcases hv with h | h <;> rw [h] <;> decide) (r_end hP hS) hS.2.2 hdg C0.2.2.2.2.2.2.2
theorem r_lret (C0 : fm_C p s m args meth c G w0 own cc nL (some .long)) (hP : fm_P G N sh M H) (hS : va_S (fm_A G.2.2) s.heap H locs) {v : Int64} (hdg : decode cc pc = .ok (.lreturn, 1)) : W p l e R s m args below meth c H locs cells slots (MQ below (fm_Q G N sh (some (.long v)) M) args s cells slots (fm_A G.2.2)) (F0 m pc ls [.long v]) :=
  W.lret C0.1 C0.2.1 C0.2.2.1 (r_end hP hS) hS.2.2 hdg C0.2.2.2.2.2.2.2
theorem r_fret (C0 : fm_C p s m args meth c G w0 own cc nL (some .float)) (hP : fm_P G N sh M H) (hS : va_S (fm_A G.2.2) s.heap H locs) {v : UInt32} (hdg : decode cc pc = .ok (.freturn, 1)) : W p l e R s m args below meth c H locs cells slots (MQ below (fm_Q G N sh (some (.float v)) M) args s cells slots (fm_A G.2.2)) (F0 m pc ls [.float v]) :=
  W.fret C0.1 C0.2.1 C0.2.2.1 (r_end hP hS) hS.2.2 hdg C0.2.2.2.2.2.2.2
theorem r_dret (C0 : fm_C p s m args meth c G w0 own cc nL (some .double)) (hP : fm_P G N sh M H) (hS : va_S (fm_A G.2.2) s.heap H locs) {v : UInt64} (hdg : decode cc pc = .ok (.dreturn, 1)) : W p l e R s m args below meth c H locs cells slots (MQ below (fm_Q G N sh (some (.double v)) M) args s cells slots (fm_A G.2.2)) (F0 m pc ls [.double v]) :=
  W.dret C0.1 C0.2.1 C0.2.2.1 (r_end hP hS) hS.2.2 hdg C0.2.2.2.2.2.2.2
theorem r_vret (C0 : fm_C p s m args meth c G w0 own cc nL none) (hP : fm_P G N sh M H) (hS : va_S (fm_A G.2.2) s.heap H locs) (hdg : decode cc pc = .ok (.return_, 1)) : W p l e R s m args below meth c H locs cells slots (MQ below (fm_Q G N sh none M) args s cells slots (fm_A G.2.2)) (F0 m pc ls []) :=
  W.vret C0.1 C0.2.1 C0.2.2.1 (r_end hP hS) hS.2.2 hdg C0.2.2.2.2.2.2.2
theorem r_aret {C : String} (C0 : fm_C p s m args meth c G w0 own cc nL (some (.object C))) (hP : fm_P G N sh M H) (hS : va_S (fm_A G.2.2) s.heap H locs) {v : Nat} (hdg : decode cc pc = .ok (.areturn, 1)) : W p l e R s m args below meth c H locs cells slots (MQ below (fm_Q G N sh (some (.ref (G.2.2 + v))) M) args s cells slots (fm_A G.2.2)) (F0 m pc ls [.ref (G.2.2 + v)]) :=
  W.aret C0.1 C0.2.1 C0.2.2.1 (Or.inl ⟨_, rfl⟩) (Or.inr ⟨_, rfl⟩) (r_end hP hS) hS.2.2 hdg C0.2.2.2.2.2.2.2
end ROWS
/-- a method's contract out of its walk -/
theorem r_met {l : Launch} {y : MethodName} {bc : ByteArray} {n : Nat} {ret : Option FieldType} {rm : Room} {own : String} {G : fm_G} {N : Nat} {sh : Nat → fm_Sh} {M M' : fm_M} {av : List Value} {v : Option Value} (hy : plainName y.cls = true) (hown : y.cls = own) (hlen : (lg_sl av).length ≤ n)
    (body : ∀ (p : Program) (e : Env) (s : State) (m : MethodId) (args : Array Value) (below : List Frame) (meth : Method) (c : Code), fm_C p s m args meth c G (.code y bc n ret) own bc n ret → fm_P G N sh M s.heap → ∀ ls : Array Slot, lv_has ls n (lv_args 0 av) → W p l e rm s m args below meth c s.heap [] 0 0 (MQ below (fm_Q G N sh v M') args s 0 0 (fm_A G.2.2)) (F0 m 0 ls [])) :
    Met l y (fm_W y bc n ret) rm (fm_Pc G N sh M av) (fm_Q G N sh v M') 0 0 (fm_A G.2.2) := by
  subst hown
  refine Met.ofW (cc := bc) (maxL := n) (ret := ret) hy rfl ?_
  intro p e s m args below meth c s₁ B hml hv
  obtain ⟨rfl, hSx, hP⟩ := hv
  have hts := atoms_spec (ws := fm_W y bc n ret) B.pre
  have hown : s.vm.findClass y.cls = some m.cls := findClass_of_methodNamed B.named
  rw [lg_entry_eq]
  exact body p e s m _ below meth c ⟨B.exec, B.bytes, B.returns, hml, hown, hts, hSx, B.notSynchronized⟩ hP _ (lv_entry av hlen)
