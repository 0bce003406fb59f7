/-! an array of three arrays is made -/
section MULTI
variable {E : CtlPost} {e : Env} {d : Bool} {acts : List Action} {s : State}
def mu_in (comp : ClassId) (dv : Value) : Cell := { cls := comp, slots := Array.replicate 78 dv, vm := .none }
def mu_out (cA : ClassId) : Cell := { cls := cA, slots := Array.replicate 3 .null, vm := .none }
theorem mu_na {c comp : ClassId} {k : Class} {ty : FieldType} {len : Nat} {v0 : Value} (hk : s.vm.classes[c]? = some k) (hkind : k.kind = .array comp ty) (h1 : ¬ len > e.platform.arrayLengthLimit) (h2 : ¬ len * componentBytes ty > e.platform.maxHeapBytes) (hf : fits ty v0 = true) (hd : v0.isDefault = true) (h3 : s.heap.size < e.platform.maxCells) (h4 : s.slotsUsed + len ≤ e.platform.maxSlots) {Q : Addr → Pre}
    (hq : Q s.heap.size d acts (s.pushCell { cls := c, slots := Array.replicate len v0, vm := .none })) : wp (Jvm.newArray c len v0) Q E e d acts s := by
  have hall : (Array.replicate len v0).all (·.isDefault) = true := by
    rw [Array.all_replicate]
    split
    · rfl
    · exact hd
  have ha : allocActs (Array.replicate len v0) s.heap.size acts = acts := by
    unfold allocActs
    rw [if_pos hall]
  have hfit : ∀ i v, (Array.replicate len v0)[i]? = some v → s.fitsSlot c .none i v = true := by
    intro i v hv
    rw [Array.getElem?_replicate] at hv
    split at hv
    · cases hv
      simp [State.fitsSlot, State.slotType?, hk, hkind, hf]
    · cases hv
  simp only [Jvm.newArray, Jvm.arrayFits, wp_bind', W.ask, W.ite, h1, if_false, wp_pure', W.theClass, hk, hkind, h2, W.alloc, W.stop, Option.some.injEq, exists_eq_left', Array.size_replicate, ha]
  rw [if_neg (by omega)]
  exact ⟨h3, h4, hfit, hq⟩
theorem mu_row {comp cc : ClassId} {kc : Class} {ty : FieldType} (hkc : s.vm.classes[comp]? = some kc) (hkind : kc.kind = .array cc ty) (h1 : ¬ 78 > e.platform.arrayLengthLimit) (h2 : ¬ 78 * componentBytes ty > e.platform.maxHeapBytes) (hf : fits ty (defaultValue ty) = true) (hd : (defaultValue ty).isDefault = true) (h3 : s.heap.size < e.platform.maxCells) (h4 : s.slotsUsed + 78 ≤ e.platform.maxSlots) {Q : Addr → Pre}
    (hq : Q s.heap.size d acts (s.pushCell (mu_in comp (defaultValue ty)))) : wp (multianewarray.make comp [78]) Q E e d acts s := by
  rw [multianewarray.make]
  simp only [wp_bind', W.ite, show ¬ (78 : Int32) < 0 by decide, if_false, wp_pure', W.theClass, hkc, hkind, Option.some.injEq, exists_eq_left']
  exact mu_na (len := 78) hkc hkind h1 h2 hf hd h3 h4 hq
/-- the state behind the i-th row -/
def mu_s (s : State) (cA comp : ClassId) (dv : Value) : Nat → State
  | 0 => s.pushCell (mu_out cA)
  | i + 1 => ((mu_s s cA comp dv i).pushCell (mu_in comp dv)).setCell s.heap.size ((((mu_s s cA comp dv i).heap[s.heap.size]?).getD (mu_out cA)).setSlot i (.ref (s.heap.size + 1 + i)))
def mu_o (cA : ClassId) (h : Nat) : Nat → Cell
  | 0 => mu_out cA
  | i + 1 => (mu_o cA h i).setSlot i (.ref (h + 1 + i))
theorem mu_o_is (cA : ClassId) (h : Nat) : ∀ i, (mu_o cA h i).cls = cA ∧ (mu_o cA h i).vm = .none ∧ (mu_o cA h i).slots.size = 3
  | 0 => ⟨rfl, rfl, by simp [mu_o, mu_out]⟩
  | i + 1 => by
    obtain ⟨h1, h2, h3⟩ := mu_o_is cA h i
    refine ⟨?_, ?_, ?_⟩ <;> simp [mu_o, Cell.setSlot, h1, h2, h3]
theorem mu_s_is (s : State) (cA comp : ClassId) (dv : Value) : ∀ i, (mu_s s cA comp dv i).heap.size = s.heap.size + 1 + i ∧ (mu_s s cA comp dv i).heap[s.heap.size]? = some (mu_o cA s.heap.size i) ∧ (mu_s s cA comp dv i).vm = s.vm ∧ (mu_s s cA comp dv i).slotsUsed = s.slotsUsed + 3 + i * 78 ∧ (∀ a, a < s.heap.size → (mu_s s cA comp dv i).heap[a]? = s.heap[a]?) ∧ ∀ j, j < i → (mu_s s cA comp dv i).heap[s.heap.size + 1 + j]? = some (mu_in comp dv)
  | 0 => ⟨by simp [mu_s], by simp [mu_s, mu_o], rfl, by simp [mu_s, mu_out], fun a ha => State.heap_pushCell_of_lt _ _ ha, fun j hj => absurd hj (Nat.not_lt_zero _)⟩
  | i + 1 => by
    obtain ⟨a1, a2, a3, a4, a5, a6⟩ := mu_s_is s cA comp dv i
    have hlt : s.heap.size < (mu_s s cA comp dv i).heap.size := by omega
    have e2 : ((mu_s s cA comp dv i).pushCell (mu_in comp dv)).heap[s.heap.size]? = some (mu_o cA s.heap.size i) := by rw [State.heap_pushCell_of_lt (h := hlt)]; exact a2
    have hS : mu_s s cA comp dv (i + 1) = ((mu_s s cA comp dv i).pushCell (mu_in comp dv)).setCell s.heap.size (mu_o cA s.heap.size (i + 1)) := by
      show ((mu_s s cA comp dv i).pushCell (mu_in comp dv)).setCell s.heap.size ((((mu_s s cA comp dv i).heap[s.heap.size]?).getD (mu_out cA)).setSlot i (.ref (s.heap.size + 1 + i))) = _
      rw [a2]
      rfl
    rw [hS]
    refine ⟨?_, State.heap_setCell_self e2, a3, ?_, fun a ha => ?_, fun j hj => ?_⟩
    · simp [State.setCell, a1]
      omega
    · simp [State.setCell, a4, mu_in]
      omega
    · have h9 : a < (mu_s s cA comp dv i).heap.size := Nat.lt_trans ha hlt
      rw [State.heap_setCell_other (Nat.ne_of_gt ha), State.heap_pushCell_of_lt (h := h9)]
      exact a5 a ha
    · have h9 : s.heap.size ≠ s.heap.size + 1 + j := by omega
      rw [State.heap_setCell_other h9]
      by_cases hji : j < i
      · have h8 : s.heap.size + 1 + j < (mu_s s cA comp dv i).heap.size := by omega
        rw [State.heap_pushCell_of_lt (h := h8)]
        exact a6 j hji
      · have : s.heap.size + 1 + j = (mu_s s cA comp dv i).heap.size := by omega
        rw [this]
        exact State.heap_pushCell_size _ _
theorem mu_s_top (s : State) (f : JFrame) (cA comp : ClassId) (dv : Value) : ∀ i, mu_s (s.setTop f) cA comp dv i = (mu_s s cA comp dv i).setTop f
  | 0 => rfl
  | i + 1 => by simp only [mu_s, mu_s_top s f cA comp dv i, State.heap_setTop, State.pushCell_setTop, State.setCell_setTop]
theorem mu_ref {t : FieldType} (h : t.isReference = true) (v : Value) (hv : v = .null ∨ ∃ a, v = .ref a) : fits t v = true := by
  rcases hv with rfl | ⟨a, rfl⟩ <;> cases t <;> simp [FieldType.isReference] at h <;> rfl
theorem mu_make {c comp cc : ClassId} {k kc : Class} {t0 ty : FieldType} (hk : s.vm.classes[c]? = some k) (hkind : k.kind = .array comp t0) (href : t0.isReference = true) (hkc : s.vm.classes[comp]? = some kc) (hkindc : kc.kind = .array cc ty)
    (h1 : ¬ 78 > e.platform.arrayLengthLimit) (h2 : ¬ 78 * componentBytes ty > e.platform.maxHeapBytes) (h1' : ¬ 3 > e.platform.arrayLengthLimit) (h2' : ¬ 3 * componentBytes t0 > e.platform.maxHeapBytes) (hf : fits ty (defaultValue ty) = true) (hd : (defaultValue ty).isDefault = true) (h3 : s.heap.size + 4 ≤ e.platform.maxCells) (h4 : s.slotsUsed + 237 ≤ e.platform.maxSlots)
    {Q : Addr → Pre} (hq : ∀ d' acts', Q s.heap.size d' acts' (mu_s s c comp (defaultValue ty) 3)) : wp (multianewarray.make c [3, 78]) Q E e d acts s := by
  have step : ∀ (i : Nat), i < 3 → ∀ (d : Bool) (acts : List Action) (Q : ForInStep PUnit → Pre), (∀ d' acts', Q (.yield ()) d' acts' (mu_s s c comp (defaultValue ty) (i + 1))) → wp (do
      let a ← multianewarray.make comp [78]
      writeLoc s.heap.size i (.ref a)
      Pure.pure (ForInStep.yield PUnit.unit)) Q E e d acts (mu_s s c comp (defaultValue ty) i) := by
    intro i hi d acts Q hQ
    obtain ⟨a1, a2, a3, a4, a5, a6⟩ := mu_s_is s c comp (defaultValue ty) i
    obtain ⟨o1, o2, o3⟩ := mu_o_is c s.heap.size i
    rw [wp_bind']
    refine mu_row (by rw [a3]; exact hkc) hkindc h1 h2 hf hd (by omega) (by omega) ?_
    have hlt0 : s.heap.size < (mu_s s c comp (defaultValue ty) i).heap.size := by omega
    simp only [wp_bind', W.writeLoc, wp_pure']
    refine ⟨mu_o c s.heap.size i, by rw [State.heap_pushCell_of_lt (h := hlt0)]; exact a2, by rw [o2]; simp, by rw [o3]; exact hi, ?_, ?_⟩
    · rw [o1, o2]
      simp [State.fitsSlot, State.slotType?, a3, hk, hkind, mu_ref href _ (Or.inr ⟨_, rfl⟩)]
    · have := hQ d
      have hS : mu_s s c comp (defaultValue ty) (i + 1) = ((mu_s s c comp (defaultValue ty) i).pushCell (mu_in comp (defaultValue ty))).setCell s.heap.size ((mu_o c s.heap.size i).setSlot i (.ref (mu_s s c comp (defaultValue ty) i).heap.size)) := by
        show ((mu_s s c comp (defaultValue ty) i).pushCell (mu_in comp (defaultValue ty))).setCell s.heap.size ((((mu_s s c comp (defaultValue ty) i).heap[s.heap.size]?).getD (mu_out c)).setSlot i (.ref (s.heap.size + 1 + i))) = _
        rw [a2, a1]
        rfl
      rw [← hS]
      exact hQ _ _
  rw [multianewarray.make]
  simp only [wp_bind', W.ite, show ¬ (3 : Int32) < 0 by decide, if_false, wp_pure', W.theClass, hk, hkind, Option.some.injEq, exists_eq_left']
  refine mu_na (len := 3) hk hkind h1' h2' (mu_ref href _ (Or.inl rfl)) rfl (by omega) (by omega) ?_
  have hfind : ([(78 : Int32)].find? (· < 0)) = none := by decide
  simp only [hfind]
  rw [ite_self, wp_bind', Std.Legacy.Range.forIn_eq_forIn_range']
  show wp (forIn [0, 1, 2] PUnit.unit _) _ E e d acts (mu_s s c comp (defaultValue ty) 0)
  rw [List.forIn_cons, wp_bind']
  refine step 0 (by decide) _ _ _ fun d1 acts1 => ?_
  dsimp only
  rw [List.forIn_cons, wp_bind']
  refine step 1 (by decide) _ _ _ fun d2 acts2 => ?_
  dsimp only
  rw [List.forIn_cons, wp_bind']
  refine step 2 (by decide) _ _ _ fun d3 acts3 => ?_
  dsimp only
  rw [List.forIn_nil, wp_pure', wp_pure']
  exact hq _ _
end MULTI
section MULTIW
variable {p : Program} {l : Launch} {e : Env} {R : Room} {s : State} {m : MethodId} {args : Array Value} {below : List Frame} {meth : Method} {c : Code} {H : Heap} {locs : List Loc} {cells slots : Nat} {Q : State → Prop}
variable {cc : ByteArray} {pc : Nat} {ls : Array Slot} {rest : List Value} {G : fm_G} {T : cn_T} {w0 : Cond} {own : String} {nL : Nat} {ret : Option FieldType}
theorem mu_stand {U : State} (X : Stand p l e R s m args below meth c U locs cells slots) (cA comp : ClassId) (dv : Value) : ∀ i, Stand p l e R s m args below meth c (mu_s U cA comp dv i) (locs ++ (List.range i).map fun j => ⟨U.heap.size, j⟩) (cells + 1 + i) (slots + 3 + i * 78)
  | 0 => by
    have h := X.pushed (mu_out cA)
    simpa [mu_s, mu_out] using h
  | i + 1 => by
    have Xi := mu_stand X cA comp dv i
    obtain ⟨a1, a2, a3, a4, a5, a6⟩ := mu_s_is U cA comp dv i
    have hlt : U.heap.size < (mu_s U cA comp dv i).heap.size := by omega
    have e2 : ((mu_s U cA comp dv i).pushCell (mu_in comp dv)).heap[U.heap.size]? = some (mu_o cA U.heap.size i) := by rw [State.heap_pushCell_of_lt (h := hlt)]; exact a2
    have h := (Xi.pushed (mu_in comp dv)).stored e2 i (.ref (U.heap.size + 1 + i))
    have e1 : (mu_in comp dv).slots.size = 78 := by simp [mu_in]
    have hS : mu_s U cA comp dv (i + 1) = ((mu_s U cA comp dv i).pushCell (mu_in comp dv)).setCell U.heap.size ((mu_o cA U.heap.size i).setSlot i (.ref (U.heap.size + 1 + i))) := by
      show ((mu_s U cA comp dv i).pushCell (mu_in comp dv)).setCell U.heap.size ((((mu_s U cA comp dv i).heap[U.heap.size]?).getD (mu_out cA)).setSlot i (.ref (U.heap.size + 1 + i))) = _
      rw [a2]
      rfl
    rw [e1] at h
    rw [hS, List.range_succ, List.map_append, ← List.append_assoc, show slots + 3 + (i + 1) * 78 = slots + 3 + i * 78 + 78 by omega]
    exact h
theorem mu_W (hexec : p.tables.exec = Jvm.exec) (hb : c.code = cc) {ty : FieldType} {idx : Nat} (hown : s.vm.findClass own = some m.cls) (hcl : (Cond.classLink own idx ("[" ++ (FieldType.array ty).toString)).before args s = true) (hMA : cn_MA ty s) (harr : (Cond.arrayClass ty).before args s = true) (hdf : fits ty (defaultValue ty) = true) (hdd : (defaultValue ty).isDefault = true) (hcb : componentBytes ty ≤ 8) (hf : cells + 4 ≤ R.cells ∧ slots + 237 ≤ R.slots) (hdg : decode cc pc = .ok (.multianewarray idx 2, 4))
    (kk : ∀ (H1 : Heap) (cA comp : ClassId), s.vm.findClass ("[" ++ (FieldType.array ty).toString) = some cA → s.vm.findClass (FieldType.array ty).toString = some comp → H1.size = H.size + 4 → (∀ a, a < H.size → H1[a]? = H[a]?) → H1[H.size]? = some (mu_o cA H.size 3) → (∀ j, j < 3 → H1[H.size + 1 + j]? = some (mu_in comp (defaultValue ty))) →
      W p l e R s m args below meth c H1 (locs ++ (List.range 3).map fun j => ⟨H.size, j⟩) (cells + 4) (slots + 237) Q (F0 m (pc + 4) ls (.ref H.size :: rest))) : W p l e R s m args below meth c H locs cells slots Q (F0 m pc ls (.int 78 :: .int 3 :: rest)) := by
  intro U hU X
  subst hU; subst hb
  have hpl : e.platform.magicAccessors = ({} : Platform).magicAccessors := by rw [X.admits.platform]
  obtain ⟨cA, kA, comp, hnameA, hkA, hkindA, hcomp⟩ := hMA
  obtain ⟨comp', kC, c1, hcomp', hkC, hkindC⟩ := Cond.arrayClass_spec harr
  have ecomp : comp' = comp := Option.some.inj (hcomp'.symm.trans hcomp)
  subst ecomp
  obtain ⟨c0, hfc0, hcl0⟩ := Cond.classLink_spec hown hcl e.platform hpl
  cases hnameA.symm.trans hfc0
  obtain ⟨hg₁, hwarm₁, hready₁⟩ := State.classEntry (e := e) X.warmed hcl0
  generalize U.vm.noted m.cls idx (.cls cA) = vm₁ at hg₁ hwarm₁ hready₁
  have hal : s.vm.Alike vm₁ := hwarm₁.alike
  obtain ⟨kA₁, hkA₁, heA⟩ := hal.2.2 _ _ hkA
  obtain ⟨kC₁, hkC₁, heC⟩ := hal.2.2 _ _ hkC
  have hkindA₁ : kA₁.kind = .array comp' (.array ty) := by rw [heA]; exact hkindA
  have hkindC₁ : kC₁.kind = .array c1 ty := by rw [heC]; exact hkindC
  have X₁ := X.noted hwarm₁
  obtain ⟨hr1, hr2⟩ := X.roomAbove hf.1 hf.2
  have XF := mu_stand X₁ cA comp' (defaultValue ty) 3
  obtain ⟨a1, a2, a3, a4, a5, a6⟩ := mu_s_is (U.setVm vm₁) cA comp' (defaultValue ty) 3
  obtain ⟨t, b1, b2⟩ := kk (mu_s (U.setVm vm₁) cA comp' (defaultValue ty) 3).heap cA comp' hnameA hcomp (by rw [a1]; rfl) a5 a2 a6 _ rfl XF
  refine ⟨t, ?_, b2⟩
  have hl1 : ¬ 3 > e.platform.arrayLengthLimit := by rw [Launch.admits_arrayLengthLimit X.admits]; omega
  have hh1 : ¬ 3 * componentBytes (.array ty) > e.platform.maxHeapBytes := by
    rw [Launch.admits_maxHeapBytes X.admits]; show ¬ 3 * 4 > 536870912; omega
  have hl2 : ¬ 78 > e.platform.arrayLengthLimit := by rw [Launch.admits_arrayLengthLimit X.admits]; omega
  have hh2 : ¬ 78 * componentBytes ty > e.platform.maxHeapBytes := by rw [Launch.admits_maxHeapBytes X.admits]; omega
  jvm_step X.here [hexec, hdg]
  simp only [multianewarray.sem, wp_bind', W.resolveClassAt_links (State.method?_setTop (F0 m pc ls (.int 78 :: .int 3 :: rest)) X.here.top) hg₁]
  rw [W.popN, if_neg (by decide)]
  refine ⟨F0 m pc ls (.int 78 :: .int 3 :: rest), State.topJava?_setTop' (s := U.setVm vm₁) _ X.here.top, [.int 3, .int 78], rest, rfl, rfl, ?_⟩
  simp only [List.mapM_cons, List.mapM_nil, wp_bind', wp_pure']
  refine mu_make (k := kA₁) (kc := kC₁) (comp := comp') (cc := c1) (t0 := .array ty) (ty := ty) hkA₁ hkindA₁ rfl hkC₁ hkindC₁ hl2 hh2 hl1 hh1 hdf hdd (by show U.heap.size + 4 ≤ _; omega) (by show U.slotsUsed + 237 ≤ _; omega) (fun d' acts' => ?_)
  have eS : ((U.setTop (F0 m pc ls (.int 78 :: .int 3 :: rest))).setVm vm₁).setTop { F0 m pc ls (.int 78 :: .int 3 :: rest) with stack := rest } = (U.setVm vm₁).setTop { F0 m pc ls (.int 78 :: .int 3 :: rest) with stack := rest } := by
    show ((U.setVm vm₁).setTop _).setTop _ = _
    rw [State.setTop_setTop]
  rw [eS, mu_s_top]
  simp only [wp_bind', W.mark, W.pushRef, State.topJava?_setTop' _ XF.here.top, Option.some.injEq, exists_eq_left', State.setTop_setTop, State.heap_setTop]
  intro acts
  simp [jvm, XF.here.top]
  exact b1
theorem mu_o3 (cA : ClassId) (h : Nat) : mu_o cA h 3 = vp_cell cA (3, .inr (.inr (.inr (.inr (fun j => ([some 0, some 1, some 2].getD j none).map (fun r => h + 1 + r)))))) := by
  rw [vp_cell_q]
  show (((mu_out cA).setSlot 0 (.ref (h + 1 + 0))).setSlot 1 (.ref (h + 1 + 1))).setSlot 2 (.ref (h + 1 + 2)) = _
  rw [show mu_out cA = arrV cA 3 (fun _ => .null) from arrV_new cA 3 .null, arrV_store, arrV_store, arrV_store]
  refine congrArg (arrV cA 3) ?_
  funext j
  rcases j with _ | _ | _ | j <;> simp [updV, va_rf]
def cn_ma (T : cn_T) (ty : FieldType) : cn_T := cn_ad (cn_ad (cn_ad (cn_ad T (.inr (.inl (.array ty, [some (T.1.length + 1), some (T.1.length + 2), some (T.1.length + 3)])))) (.inl (ty, 78))) (.inl (ty, 78))) (.inl (ty, 78))
theorem cn_multi (C0 : cn_C p s m args meth c G w0 own cc nL ret) {idx : Nat} {ty : FieldType} (hty : ty = .int ∨ ty = .long) (hl : Cond.classLink own idx ("[" ++ (FieldType.array ty).toString) ∈ gT) (hw : Cond.arrayClass ty ∈ gT) (hK : cn_K G s T H locs cells) (hf : cells + 4 ≤ R.cells ∧ slots + 237 ≤ R.slots) (hdg : decode cc pc = .ok (.multianewarray idx 2, 4))
    (kk : ∀ (H1 : Heap) (locs1 : List Loc), cn_K G s (cn_ma T ty) H1 locs1 (cells + 4) → W p l e R s m args below meth c H1 locs1 (cells + 4) (slots + 237) Q (F0 m (pc + 4) ls (.ref (G.2.2 + T.1.length) :: rest))) : W p l e R s m args below meth c H locs cells slots Q (F0 m pc ls (.int 78 :: .int 3 :: rest)) := by
  obtain ⟨⟨hx, hb, -, -, hown, hts, hSx, -⟩, hXx, hB⟩ := C0
  refine cn_size hK hB fun hsz => ?_
  have hMA : cn_MA ty s := by
    rcases hty with rfl | rfl
    · exact hXx.2.2.2.1
    · exact hXx.2.2.2.2
  have hty' : ty = .int ∨ ty = .boolean ∨ ty = .long ∨ ty = .float ∨ ty = .double := by
    rcases hty with rfl | rfl
    · exact Or.inl rfl
    · exact Or.inr (Or.inr (Or.inl rfl))
  refine mu_W hx hb hown (hts _ (List.mem_cons_of_mem _ hl)) hMA (hts _ (List.mem_cons_of_mem _ hw)) (by rcases hty with rfl | rfl <;> rfl) (by rcases hty with rfl | rfl <;> decide) (by rcases hty with rfl | rfl <;> decide) hf hdg fun H1 cA comp f1 f2 z1 o1 e1 r1 => ?_
  have hcA : cA = G.2.1 (.array ty) := by
    rcases hty with rfl | rfl
    · have h2 : s.vm.findClass ("[" ++ (FieldType.array .int).toString) = some (G.2.1 (.array .int)) := (hSx.1.2 5 (G.2.1 (.array .int), .array .int) (by simp [fm_tys, fm_tyL])).2
      exact Option.some.inj (f1.symm.trans h2)
    · have h2 : s.vm.findClass ("[" ++ (FieldType.array .long).toString) = some (G.2.1 (.array .long)) := (hSx.1.2 6 (G.2.1 (.array .long), .array .long) (by simp [fm_tys, fm_tyL])).2
      exact Option.some.inj (f1.symm.trans h2)
  have hcy : comp = G.2.1 ty := by
    rcases hty with rfl | rfl
    · have h2 : s.vm.findClass ("[" ++ FieldType.int.toString) = some (G.2.1 .int) := (hSx.1.2 0 (G.2.1 .int, .int) (by simp [fm_tys, fm_tyL])).2
      exact Option.some.inj (f2.symm.trans h2)
    · have h2 : s.vm.findClass ("[" ++ FieldType.long.toString) = some (G.2.1 .long) := (hSx.1.2 2 (G.2.1 .long, .long) (by simp [fm_tys, fm_tyL])).2
      exact Option.some.inj (f2.symm.trans h2)
  subst hcA
  subst hcy
  have row : ∀ (T' : cn_T) (j : Nat), j < 3 → T'.1.length = T.1.length + 1 + j → va_at G.1 classes (G.2.2 + T'.1.length, fm_ct G T'.1.length (.inl (ty, 78)) (cn_M (cn_ad T' (.inl (ty, 78))))) H1 := by
    intro T' j hj hT'
    show H1[G.2.2 + T'.1.length]? = some (vp_cell (G.2.1 ty) (78, fm_nv T'.1.length ty (cn_M (cn_ad T' (.inl (ty, 78))))))
    rw [cn_cell0 hty', ← arrV_new, show G.2.2 + T'.1.length = H.size + 1 + j by omega]
    exact r1 j hj
  have step : ∀ (T' : cn_T) (x : fm_Sh), cn_P G T' H1 → va_at G.1 classes (G.2.2 + T'.1.length, fm_ct G T'.1.length x (cn_M (cn_ad T' x))) H1 → cn_P G (cn_ad T' x) H1 := fun T' x h1 h2 => cn_push h1 (fun _ _ => rfl) h2
  have p0 : cn_P G T H1 := hK.1.kept (fun k x hx => o1 x.1 ((hK.1 k x hx).lt))
  have p1 : cn_P G (cn_ad T (.inr (.inl (.array ty, [some (T.1.length + 1), some (T.1.length + 2), some (T.1.length + 3)])))) H1 := by
    refine step T _ p0 ?_
    show H1[G.2.2 + T.1.length]? = some (vp_cell (G.2.1 (.array ty)) (3, .inr (.inr (.inr (.inr (fun j => ([some (T.1.length + 1), some (T.1.length + 2), some (T.1.length + 3)].getD j none).map (fun r => G.2.2 + r)))))))
    rw [← hsz, e1, mu_o3]
    refine congrArg (fun f => some (vp_cell (G.2.1 (.array ty)) (3, .inr (.inr (.inr (.inr f)))))) ?_
    funext j
    rcases j with _ | _ | _ | j <;> simp <;> omega
  have p2 := step _ (.inl (ty, 78)) p1 (row _ 0 (by decide) (by rw [cn_len_ad]))
  have p3 := step _ (.inl (ty, 78)) p2 (row _ 1 (by decide) (by rw [cn_len_ad, cn_len_ad]))
  have p4 := step _ (.inl (ty, 78)) p3 (row _ 2 (by decide) (by rw [cn_len_ad, cn_len_ad, cn_len_ad]))
  have hS := hK.2.1
  have hC := hK.2.2
  rw [show (Value.ref H.size) = .ref (G.2.2 + T.1.length) by rw [hsz]]
  refine kk H1 _ ⟨p4, ⟨by have := hS.1; omega, fun x h1 h2 => ?_, fun x hx => ?_⟩, ?_⟩
  · have := hS.1
    rw [o1 x (by omega)]
    exact hS.2.1 x h1 h2
  · rcases List.mem_append.mp hx with h | h
    · exact hS.2.2 x h
    · obtain ⟨j, -, rfl⟩ := List.mem_map.mp h
      show G.2.2 ≤ H.size
      omega
  · show s.heap.size + (cells + 4) = G.2.2 + (cn_ma T ty).1.length
    simp only [cn_ma, cn_len_ad]
    omega
end MULTIW
