/-! the law's own methods: they call one of the class's and turn an exception into a number -/
def va_Yc (E : String) (U : State) : Prop := ∃ c : ClassId, U.vm.findClass E = some c ∧ U.vm.assignable c c = true
theorem va_Yc.moved {E : String} {u U : State} (hvm : u.vm.Alike U.vm) (h : va_Yc E u) : va_Yc E U := by
  obtain ⟨c, h1, h2⟩ := h
  exact ⟨c, by rw [hvm.findClass]; exact h1, by rw [hvm.assignable]; exact h2⟩
theorem va_Yc.of {E : String} {args : Array Value} {s : State} (h : (Cond.castable E E).before args s = true) : va_Yc E s := by
  obtain ⟨c3, c4, hc3, hc4, hasg⟩ := Cond.castable_spec h
  cases Option.some.inj (hc3.symm.trans hc4)
  exact ⟨c3, hc3, hasg⟩
def lx_yes : List String := ["java/lang/IllegalArgumentException", "java/lang/IllegalStateException", "java/lang/IndexOutOfBoundsException", "java/util/NoSuchElementException"]
def lx_no : List (String × String) := [("java/lang/IllegalStateException", "java/lang/IllegalArgumentException"), ("java/lang/IllegalArgumentException", "java/lang/IllegalStateException"), ("java/lang/IndexOutOfBoundsException", "java/lang/IllegalArgumentException"), ("java/util/NoSuchElementException", "java/lang/IllegalArgumentException")]
def lx_S (U : State) : Prop := (∀ E ∈ lx_yes, va_Yc E U) ∧ (∀ q ∈ lx_no, va_Nc q.1 q.2 U)
theorem lx_S.moved {u U : State} (hvm : u.vm.Alike U.vm) (h : lx_S u) : lx_S U := ⟨fun E hE => (h.1 E hE).moved hvm, fun q hq => (h.2 q hq).moved hvm⟩
def fm_WW (y : MethodName) (cc : ByteArray) (n : Nat) (ret : Option FieldType) (hh : List (Nat × Nat × Nat × Nat)) : List Cond := .codeWith y cc n ret hh :: gT
def lx_Pc (G : fm_G) (M : fm_M) (av : List Value) : Array Value → State → Prop := fun v U => v = av.toArray ∧ fx_S G U ∧ lx_S U ∧ kP G M U.heap
theorem lx_blind (G : fm_G) (M : fm_M) (av : List Value) : FrameBlind (lx_Pc G M av) := fun a U g mk h => ⟨h.1, h.2.1.blind g mk a, h.2.2.1.moved (u := U) (U := U.calling g mk a) (Vm.Alike.refl U.vm), h.2.2.2⟩
abbrev lx_rm (fr lo : Nat) : Room := { frames := fr, cells := 1, slots := 6, locals := lo }
abbrev lMet (l : Launch) (y : MethodName) (bc : ByteArray) (n : Nat) (rt : Option FieldType) (hh : List (Nat × Nat × Nat × Nat)) (fr lo : Nat) (G : fm_G) (M : fm_M) (av : List Value) (v : Option Value) (M' : fm_M) : Prop := Met l y (fm_WW y bc n rt hh) (lx_rm fr lo) (lx_Pc G M av) (fm_Q G 212 shF v M') 1 6 (fm_A G.2.2)
def lx_C (l : Launch) (s : State) (c : Code) (G : fm_G) (hh : List (Nat × Nat × Nat × Nat)) : Prop := l.stackTraces = false ∧ fx_S G s ∧ lx_S s ∧ c.exceptionTable.toList = tableOf hh
theorem l_met {l : Launch} {y : MethodName} {bc : ByteArray} {n : Nat} {ret : Option FieldType} {hh : List (Nat × Nat × Nat × Nat)} {fr lo : Nat} {own : String} {G : fm_G} {M M' : fm_M} {av : List Value} {v : Option Value} (hl : l.stackTraces = false) (hy : plainName y.cls = true) (hown : y.cls = own) (hlen : (lg_sl av).length ≤ n)
    (body : ∀ (p : Program) (e : Env) (s : State) (m : MethodId) (args : Array Value) (below : List Frame) (meth : Method) (c : Code), fm_C p s m args meth c G (.codeWith y bc n ret hh) own bc n ret → lx_C l s c G hh → kP G M s.heap → ∀ ls : Array Slot, lv_has ls n (lv_args 0 av) → W p l e (lx_rm fr lo) s m args below meth c s.heap [] 0 0 (MQ below (fm_Q G 212 shF v M') args s 1 6 (fm_A G.2.2)) (F0 m 0 ls [])) :
    lMet l y bc n ret hh fr lo G M av v M' := by
  subst hown
  refine va_MetW (cc := bc) (maxL := n) (ret := ret) (hh := hh) hy rfl ?_
  intro p e s m args below meth c s₁ B hml hv
  obtain ⟨rfl, hSx, hLx, hP⟩ := hv
  have hts := atoms_spec (ws := fm_WW y bc n ret hh) B.pre
  have hown : s.vm.findClass y.cls = some m.cls := findClass_of_methodNamed B.named
  have htab : c.exceptionTable.toList = tableOf hh := vx_table (x := y) B (hts _ List.mem_cons_self)
  rw [lg_entry_eq]
  exact body p e s m _ below meth c ⟨B.exec, B.bytes, B.returns, hml, hown, hts, hSx.1, B.notSynchronized⟩ ⟨hl, hSx, hLx, htab⟩ hP _ (lv_entry av hlen)
def lt {α β : Type} (o : Option ((α ⊕ String) × fm_M)) (f : α → fm_M → Option β) (g : String → fm_M → Option β) : Option β := match o with
  | some (.inl v, M) => f v M
  | some (.inr E, M) => g E M
  | none => none
theorem ob4 {α β : Type} {o : Option ((α ⊕ String) × fm_M)} {f : α → fm_M → Option β} {g : String → fm_M → Option β} {r : β} (h : lt o f g = some r) : (∃ v M1, o = some (.inl v, M1) ∧ f v M1 = some r) ∨ (∃ E M1, o = some (.inr E, M1) ∧ g E M1 = some r) := by
  match o, h with
  | some (.inl v, M1), h => exact Or.inl ⟨v, M1, rfl, h⟩
  | some (.inr E, M1), h => exact Or.inr ⟨E, M1, rfl, h⟩
section LROWS
variable {p : Program} {l : Launch} {e : Env} {R : Room} {s : State} {m : MethodId} {args : Array Value} {below : List Frame} {meth : Method} {c : Code} {H : Heap} {locs : List Loc} {cells slots : Nat} {Q : State → Prop}
variable {cc : ByteArray} {pc : Nat} {ls : Array Slot} {rest : List Value} {G : fm_G} {M M1 : fm_M} {q : Nat} {w0 : Cond} {own : String} {nL : Nat} {ret : Option FieldType}
theorem x_back1 {st0 : List Value} {v : Value} {a : Array Value} (hr : vx_Run p l e R s m args below meth c H locs cells slots 0 0 (F0 m pc ls st0) rest (fx_Q G (.inl (some v)) M1 a) (fx_X G (.inl (some v)) M1) (fm_A G.2.2)) (hS : kS G s H locs)
    (kk : ∀ (H1 : Heap) (locs1 : List Loc), kP G M1 H1 → kS G s H1 locs1 → W p l e R s m args below meth c H1 locs1 cells slots Q (F0 m (pc + 3) ls (v :: rest))) : W p l e R s m args below meth c H locs cells slots Q (F0 m pc ls st0) := x_back hr hS kk
/-- the first row takes it -/
theorem l_c1 (C0 : fm_C p s m args meth c G w0 own cc nL ret) {a1 b1 h1 t1 : Nat} {tl : List (Nat × Nat × Nat × Nat)} (C1 : lx_C l s c G ((a1, b1, h1, t1) :: tl)) {E : String} {ce : Cell} {q9 : Nat} (hcov : covers ⟨a1, b1, h1, t1⟩ pc = true) (ht : t1 ≠ 0) (hlink : Cond.classLink own t1 E ∈ gT) (hy : E ∈ lx_yes) (hcell : H[q9]? = some ce) (hv : ce.vm = .none) (hcl : s.vm.findClass E = some ce.cls)
    (kk : W p l e R s m args below meth c H locs cells slots Q (F0 m h1 ls [.ref q9])) : vx_W p l e R s m args below meth c H locs cells slots Q (F0 m pc ls rest) q9 := by
  refine ct_catch (E := E) (hpc := h1) ?_ hcell hv hcl kk
  intro pl hpl
  rw [C1.2.2.2]
  obtain ⟨c5, hc5, hl5⟩ := Cond.classLink_spec C0.2.2.2.2.1 (C0.2.2.2.2.2.1 _ (List.mem_cons_of_mem _ hlink)) pl hpl
  obtain ⟨c6, hc6, ha⟩ := C1.2.2.1.1 E hy
  cases Option.some.inj (hc6.symm.trans hc5)
  cases Option.some.inj (hc6.symm.trans hcl)
  exact ⟨hcov, ht, _, hl5, Or.inl ⟨ha, rfl⟩⟩
/-- the first row doesn't, the second does -/
theorem l_c2 (C0 : fm_C p s m args meth c G w0 own cc nL ret) {a1 b1 h1 t1 a2 b2 h2 t2 : Nat} {tl : List (Nat × Nat × Nat × Nat)} (C1 : lx_C l s c G ((a1, b1, h1, t1) :: (a2, b2, h2, t2) :: tl)) {E E1 : String} {ce : Cell} {q9 : Nat} (hcov1 : covers ⟨a1, b1, h1, t1⟩ pc = true) (ht1 : t1 ≠ 0) (hlink1 : Cond.classLink own t1 E1 ∈ gT) (hno : (E, E1) ∈ lx_no) (hcov : covers ⟨a2, b2, h2, t2⟩ pc = true) (ht : t2 ≠ 0) (hlink : Cond.classLink own t2 E ∈ gT) (hy : E ∈ lx_yes) (hcell : H[q9]? = some ce) (hv : ce.vm = .none) (hcl : s.vm.findClass E = some ce.cls)
    (kk : W p l e R s m args below meth c H locs cells slots Q (F0 m h2 ls [.ref q9])) : vx_W p l e R s m args below meth c H locs cells slots Q (F0 m pc ls rest) q9 := by
  refine ct_catch (E := E) (hpc := h2) ?_ hcell hv hcl kk
  intro pl hpl
  rw [C1.2.2.2]
  obtain ⟨c7, hc7, hl7⟩ := Cond.classLink_spec C0.2.2.2.2.1 (C0.2.2.2.2.2.1 _ (List.mem_cons_of_mem _ hlink1)) pl hpl
  obtain ⟨d1, d2, g1, g2, g3⟩ := C1.2.2.1.2 _ hno
  obtain ⟨c5, hc5, hl5⟩ := Cond.classLink_spec C0.2.2.2.2.1 (C0.2.2.2.2.2.1 _ (List.mem_cons_of_mem _ hlink)) pl hpl
  obtain ⟨c6, hc6, ha⟩ := C1.2.2.1.1 E hy
  cases Option.some.inj (hc6.symm.trans hc5)
  cases Option.some.inj (hc6.symm.trans hcl)
  cases Option.some.inj (g1.symm.trans hcl)
  cases Option.some.inj (g2.symm.trans hc7)
  exact ⟨hcov1, ht1, _, hl7, Or.inr ⟨g3, hcov, ht, _, hl5, Or.inl ⟨ha, rfl⟩⟩⟩
def fm_LW (own : String) (idx : Nat) (y : MethodName) (bc : ByteArray) (n : Nat) (ret : Option FieldType) (hh : List (Nat × Nat × Nat × Nat)) (na : Nat) : Prop :=
  (Cond.methodLink own idx y ∈ gT ∧ Cond.static y ∈ gT ∧ Cond.initialized y.cls ∈ gT ∧ Cond.codeWith y bc n ret hh ∈ gT) ∧ (y.cls ≠ "java/lang/invoke/MethodHandle" ∧ y.cls ≠ "java/lang/invoke/VarHandle" ∧ (parseMethodDescriptor y.desc).map (fun d => d.parameters.length) = some na)
theorem fm_goodW {w0 : Cond} {own : String} {idx : Nat} {y : MethodName} {bc : ByteArray} {n : Nat} {ret : Option FieldType} {hh : List (Nat × Nat × Nat × Nat)} {na : Nat} (h : fm_LW own idx y bc n ret hh na) : GoodIn (w0 :: gT) (va_wsS own idx y (fm_WW y bc n ret hh)) := by
  obtain ⟨⟨h1, h2, h3, h4⟩, -⟩ := h
  intro w hw
  unfold va_wsS at hw
  rcases List.mem_append.mp hw with hw | hw
  · simp only [List.mem_cons, List.not_mem_nil, or_false] at hw
    rcases hw with e | e | e <;> rw [e]
    · exact fm_in h1
    · exact fm_in h2
    · exact fm_in h3
  · rcases List.mem_cons.mp hw with e | h
    · rw [e]
      exact fm_in h4
    · exact fm_in h
/-- a call of one of them -/
theorem l_cS (C0 : fm_C p s m args meth c G w0 own cc nL ret) (C1 : fx_S G s) (C2 : lx_S s) {idx : Nat} {y : MethodName} {bc : ByteArray} {n : Nat} {rt : Option FieldType} {hh : List (Nat × Nat × Nat × Nat)} {na : Nat} (hL : fm_LW own idx y bc n rt hh na) {fr lo : Nat} {As : List Value} {v : Value} (hM : lMet l y bc n rt hh fr lo G M As (some v) M1) (hR : fr + 1 ≤ R.frames ∧ 8 + (n + 11) + lo ≤ R.locals)
    (hP : kP G M H) (hS : kS G s H locs) (hn : As.length = na) (hsz : ls.size = nL) {st0 : List Value} (hst : st0 = As.reverse ++ rest) (hw : (rest.map fun v => v.category).sum ≤ 8) (hdg : decode cc pc = .ok (.invokestatic idx, 3)) (hf : cells + 1 ≤ R.cells ∧ slots + 6 ≤ R.slots)
    (kk : ∀ (H1 : Heap) (locs1 : List Loc), kP G M1 H1 → kS G s H1 locs1 → W p l e R s m args below meth c H1 locs1 (cells + 1) (slots + 6) Q (F0 m (pc + 3) ls (v :: rest))) : W p l e R s m args below meth c H locs cells slots Q (F0 m pc ls st0) := by
  obtain ⟨hx, hb, -, hml, hown, hts, hSx, -⟩ := C0
  exact r_call (v := some v) (vx_runSW (As := As) (rest := rest) ⟨hx, hb, hml, hown, hts⟩ hM (vx_cwSW na hts (fm_goodW hL) rfl rfl rfl hL.2 hR) ⟨lx_blind G M _, fun U hU hW => ⟨rfl, C1.to hU hW hS, C2.moved hW.alike, by rw [hU]; exact hP⟩⟩ rfl hn hsz hst (by show 2 * 0 + _ ≤ 8; omega) hdg hf) hS kk
end LROWS
