/-! the making of the cells: what has been made (the shapes, and a log of the ints that were put) -/
abbrev cn_T : Type := List fm_Sh × List (Nat × Nat × Int32)
def cn_lk : List (Nat × Nat × Int32) → Nat → Nat → Int32
  | [], _, _ => 0
  | x :: r, k, j => if k = x.1 ∧ j = x.2.1 then x.2.2 else cn_lk r k j
def cn_sh (T : cn_T) (k : Nat) : fm_Sh := T.1.getD k (.inl (.int, 0))
def cn_M (T : cn_T) : fm_M := (cn_lk T.2, fun _ _ => 0, fun _ _ => 0, fun _ _ => 0)
def cn_P (G : fm_G) (T : cn_T) (H : Heap) : Prop := fm_P G T.1.length (cn_sh T) (cn_M T) H
def cn_fr (L : List (Nat × Nat × Int32)) (k : Nat) : List (Nat × Nat × Int32) := L.filter (fun x => !(x.1 == k))
def cn_st (L : List (Nat × Nat × Int32)) (k j : Nat) (v : Int32) : List (Nat × Nat × Int32) := if v = 0 then L.filter (fun x => !(x.1 == k && x.2.1 == j)) else (k, j, v) :: L
theorem cn_fr_self (L : List (Nat × Nat × Int32)) (k j : Nat) : cn_lk (cn_fr L k) k j = 0 := by
  induction L with
  | nil => rfl
  | cons x r ih =>
    by_cases h : x.1 = k
    · simpa [cn_fr, List.filter_cons, h] using ih
    · have : ¬ k = x.1 := fun q => h q.symm
      simpa [cn_fr, List.filter_cons, h, cn_lk, this] using ih
theorem cn_fr_ne (L : List (Nat × Nat × Int32)) {i k : Nat} (hi : i ≠ k) (j : Nat) : cn_lk (cn_fr L k) i j = cn_lk L i j := by
  induction L with
  | nil => rfl
  | cons x r ih =>
    by_cases h : x.1 = k
    · have h2 : ¬ i = x.1 := fun q => hi (q.trans h)
      rw [show cn_fr (x :: r) k = cn_fr r k by simp [cn_fr, List.filter_cons, h], ih]
      simp [cn_lk, h2]
    · rw [show cn_fr (x :: r) k = x :: cn_fr r k by simp [cn_fr, List.filter_cons, h]]
      simp [cn_lk, ih]
theorem cn_st_lk (L : List (Nat × Nat × Int32)) (k j : Nat) (v : Int32) : cn_lk (cn_st L k j v) = fm_u (cn_lk L) k j v := by
  funext a b
  unfold cn_st
  split
  · rename_i hv
    subst hv
    induction L with
    | nil => simp [cn_lk, fm_u]
    | cons x r ih =>
      by_cases h : x.1 = k ∧ x.2.1 = j
      · rw [List.filter_cons_of_neg (by simp [h]), ih]
        simp only [fm_u, cn_lk, h]
        by_cases h2 : a = k ∧ b = j <;> simp [h2]
      · rw [List.filter_cons_of_pos (by simp only [Bool.not_eq_true', Bool.and_eq_false_iff, beq_eq_false_iff_ne]; exact (Classical.em (x.1 = k)).elim (fun hx => Or.inr (fun hj => h ⟨hx, hj⟩)) (fun hx => Or.inl hx))]
        simp only [cn_lk, ih]
        by_cases h2 : a = x.1 ∧ b = x.2.1
        · have h3 : ¬ (a = k ∧ b = j) := fun q => h ⟨h2.1.symm.trans q.1, h2.2.symm.trans q.2⟩
          simp only [fm_u, cn_lk, if_pos h2, if_neg h3]
        · simp only [fm_u, cn_lk, if_neg h2]
  · rfl
/-- a cell is added -/
def cn_ad (T : cn_T) (x : fm_Sh) : cn_T := (T.1 ++ [x], cn_fr T.2 T.1.length)
def cn_pi (q ci j : Nat) (v : Int32) (T : cn_T) : Option cn_T := match T.1[q]? with
  | some (.inr (.inr (c, fl))) => if c = ci ∧ fl[j]? = some none then some (T.1, cn_st T.2 q j v) else none
  | _ => none
def cn_pf (q ci j r : Nat) (T : cn_T) : Option cn_T := match T.1[q]? with
  | some (.inr (.inr (c, fl))) => if c = ci ∧ fl[j]? = some (some none) then some (T.1.set q (.inr (.inr (c, fl.set j (some (some r))))), T.2) else none
  | _ => none
def cn_gr (q ci j : Nat) (T : cn_T) : Option Nat := match T.1[q]? with
  | some (.inr (.inr (c, fl))) => if c = ci then (match fl[j]? with
    | some (some r) => r
    | _ => none) else none
  | _ => none
def cn_as (q i ci r : Nat) (T : cn_T) : Option cn_T := match T.1[q]?, T.1[r]?, classes[ci]? with
  | some (.inr (.inl (ty, rs))), some (.inr (.inr (c, _))), some C => if c = ci ∧ ty = .object C.1 ∧ i < rs.length ∧ i < 100 ∧ ty ∈ fm_tyL then some (T.1.set q (.inr (.inl (ty, rs.set i (some r)))), T.2) else none
  | _, _, _ => none
theorem cn_pi_of {q ci j : Nat} {v : Int32} {T T' : cn_T} (h : cn_pi q ci j v T = some T') : ∃ fl, T.1[q]? = some (.inr (.inr (ci, fl))) ∧ fl[j]? = some none ∧ T' = (T.1, cn_st T.2 q j v) := by
  unfold cn_pi at h
  split at h
  · rename_i c fl hs
    split at h
    · rename_i hc
      cases h
      obtain ⟨rfl, hf⟩ := hc
      exact ⟨fl, hs, hf, rfl⟩
    · cases h
  · cases h
theorem cn_pf_of {q ci j r : Nat} {T T' : cn_T} (h : cn_pf q ci j r T = some T') : ∃ fl, T.1[q]? = some (.inr (.inr (ci, fl))) ∧ fl[j]? = some (some none) ∧ T' = (T.1.set q (.inr (.inr (ci, fl.set j (some (some r))))), T.2) := by
  unfold cn_pf at h
  split at h
  · rename_i c fl hs
    split at h
    · rename_i hc
      cases h
      obtain ⟨rfl, hf⟩ := hc
      exact ⟨fl, hs, hf, rfl⟩
    · cases h
  · cases h
theorem cn_gr_of {q ci j r : Nat} {T : cn_T} (h : cn_gr q ci j T = some r) : ∃ fl, T.1[q]? = some (.inr (.inr (ci, fl))) ∧ fl[j]? = some (some (some r)) := by
  unfold cn_gr at h
  split at h
  · rename_i c fl hs
    split at h
    · rename_i hc
      subst hc
      split at h
      · rename_i r' hr
        subst h
        exact ⟨fl, hs, hr⟩
      · cases h
    · cases h
  · cases h
theorem cn_as_of {q i ci r : Nat} {T T' : cn_T} (h : cn_as q i ci r T = some T') : ∃ rs C fl, T.1[q]? = some (.inr (.inl (.object C.1, rs))) ∧ T.1[r]? = some (.inr (.inr (ci, fl))) ∧ classes[ci]? = some C ∧ i < rs.length ∧ i < 100 ∧ .object C.1 ∈ fm_tyL ∧ T' = (T.1.set q (.inr (.inl (.object C.1, rs.set i (some r)))), T.2) := by
  unfold cn_as at h
  split at h
  · rename_i ty rs c fl C h1 h2 h3
    split at h
    · rename_i hc
      cases h
      obtain ⟨rfl, rfl, h4, h5, h6⟩ := hc
      exact ⟨rs, C, fl, h1, h2, h3, h4, h5, h6, rfl⟩
    · cases h
  · cases h
theorem cn_sh_of {T : cn_T} {q : Nat} {x : fm_Sh} (h : T.1[q]? = some x) : cn_sh T q = x ∧ q < T.1.length := ⟨by rw [cn_sh, List.getD_eq_getElem?_getD, h]; rfl, (List.getElem?_eq_some_iff.mp h).1⟩
theorem cn_M_ad {T : cn_T} {x : fm_Sh} {k : Nat} (hk : k ≠ T.1.length) : (cn_M (cn_ad T x)).1 k = (cn_M T).1 k := by
  funext j
  exact cn_fr_ne T.2 hk j
theorem cn_M_new {T : cn_T} {x : fm_Sh} : (cn_M (cn_ad T x)).1 T.1.length = fun _ => 0 := by
  funext j
  exact cn_fr_self T.2 _ j
theorem cn_ct_ad {G : fm_G} {T : cn_T} {x y : fm_Sh} {k : Nat} (hk : k ≠ T.1.length) : fm_ct G k y (cn_M (cn_ad T x)) = fm_ct G k y (cn_M T) := by
  rcases y with ⟨ty, n⟩ | ⟨ty, rs⟩ | ⟨ci, fl⟩
  · simp only [fm_ct, fm_nv, cn_M_ad hk]
    rfl
  · rfl
  · simp only [fm_ct, cn_M_ad hk]
theorem cn_len_ad (T : cn_T) (x : fm_Sh) : (cn_ad T x).1.length = T.1.length + 1 := by simp [cn_ad]
/-- the cell that was added stands behind the others -/
theorem cn_push {G : fm_G} {T : cn_T} {x : fm_Sh} {H H1 : Heap} (hP : cn_P G T H) (hk : ∀ k, k < T.1.length → H1[G.2.2 + k]? = H[G.2.2 + k]?) (hn : va_at G.1 classes (G.2.2 + T.1.length, fm_ct G T.1.length x (cn_M (cn_ad T x))) H1) : cn_P G (cn_ad T x) H1 := by
  intro k q hq
  have hl : k < T.1.length + 1 := by
    have := (List.getElem?_eq_some_iff.mp hq).1
    simpa [fm_wl, cn_len_ad] using this
  rw [fm_get G _ _ (by rw [cn_len_ad]; exact hl)] at hq
  cases hq
  by_cases h : k < T.1.length
  · have hs : cn_sh (cn_ad T x) k = cn_sh T k := by
      simp only [cn_sh, cn_ad, List.getD_eq_getElem?_getD]
      rw [List.getElem?_append_left h]
    rw [hs, cn_ct_ad (Nat.ne_of_lt h)]
    exact (hP k _ (fm_get G _ _ h)).kept (hk k h)
  · have he : k = T.1.length := by omega
    subst he
    have hs : cn_sh (cn_ad T x) T.1.length = x := by
      simp [cn_sh, cn_ad]
    rw [hs]
    exact hn
/-- what the tables know of arrays of references and of arrays of arrays -/
def cn_MA (ty : FieldType) (U : State) : Prop := ∃ (cA : ClassId) (kA : Class) (comp : ClassId), U.vm.findClass ("[" ++ (FieldType.array ty).toString) = some cA ∧ U.vm.classes[cA]? = some kA ∧ kA.kind = .array comp (.array ty) ∧ U.vm.findClass (FieldType.array ty).toString = some comp
theorem cn_MA.moved {ty : FieldType} {u U : State} (hvm : u.vm.Alike U.vm) (h : cn_MA ty u) : cn_MA ty U := by
  obtain ⟨cA, kA, comp, h1, h2, h3, h4⟩ := h
  obtain ⟨k', hk', he⟩ := hvm.2.2 _ _ h2
  exact ⟨cA, k', comp, by rw [hvm.findClass]; exact h1, hk', by rw [he]; exact h3, by rw [hvm.findClass]; exact h4⟩
def cn_X (U : State) : Prop := va_AO "AllocationProfiler$Method" U ∧ va_AO "AllocationProfiler$Strand" U ∧ va_AO "AllocationProfiler$Frame" U ∧ cn_MA .int U ∧ cn_MA .long U
theorem cn_X.moved {u U : State} (hvm : u.vm.Alike U.vm) (h : cn_X u) : cn_X U := ⟨h.1.moved hvm, h.2.1.moved hvm, h.2.2.1.moved hvm, h.2.2.2.1.moved hvm, h.2.2.2.2.moved hvm⟩
def cn_S (G : fm_G) (U : State) : Prop := fm_S G U ∧ cn_X U
def cn_Pc (G : fm_G) (T : cn_T) (av : List Value) : Array Value → State → Prop := fun v U => v = av.toArray ∧ cn_S G U ∧ cn_P G T U.heap ∧ U.heap.size = G.2.2 + T.1.length
def cn_Q (G : fm_G) (T T' : cn_T) (mc : Nat) : Array Value → State → Outcome → State → Prop := fun _ st oc t => oc = .returned none ∧ cn_P G T' t.heap ∧ T'.1.length = T.1.length + mc ∧ va_F (fm_A G.2.2) st t
theorem cn_blind (G : fm_G) (T : cn_T) (av : List Value) : FrameBlind (cn_Pc G T av) := fun a U g mk h => ⟨h.1, ⟨h.2.1.1.blind g mk a, cn_X.moved (u := U) (U := U.calling g mk a) (Vm.Alike.refl U.vm) h.2.1.2⟩, h.2.2.1, h.2.2.2⟩
/-- what a walk of a constructor rests on -/
def cn_C (p : Program) (s : State) (m : MethodId) (args : Array Value) (meth : Method) (c : Code) (G : fm_G) (w0 : Cond) (own : String) (cc : ByteArray) (nL : Nat) (ret : Option FieldType) : Prop :=
  fm_C p s m args meth c G w0 own cc nL ret ∧ cn_X s ∧ G.2.2 ≤ s.heap.size
/-- where the walk stands: the cells, and how many were made -/
def cn_K (G : fm_G) (s : State) (T : cn_T) (H : Heap) (locs : List Loc) (cells : Nat) : Prop := cn_P G T H ∧ va_S (fm_A G.2.2) s.heap H locs ∧ s.heap.size + cells = G.2.2 + T.1.length
def cn_dv (f : Option (Option Nat)) : Value := match f with
  | none => .int 0
  | _ => .null
def cn_N (own : String) (idx ci N0 : Nat) (fl : List (Option (Option Nat))) : Prop := ∃ (C : String) (Tt : u_T) (ty : Nat → FieldType), classes[ci]? = some (C, Tt, N0) ∧ (∀ w ∈ u_ws C Tt N0, w ∈ gT) ∧ (∀ k, k < N0 → parseFieldDescriptor (Tt k).2.2.1 = some (ty k)) ∧ Cond.classLink own idx C ∈ gT ∧ Cond.instantiable C N0 ∈ gT ∧ Cond.initialized C ∈ gT ∧ (∀ f ∈ fl, f = none ∨ f = some none) ∧ ∀ j, j < N0 → defaultValue (ty j) = vp_V (fl.map cn_dv) j
theorem cn_fv_new {b : Nat} {fl : List (Option (Option Nat))} (h : ∀ f ∈ fl, f = none ∨ f = some none) : fm_fv b (fun _ => 0) fl = fl.map cn_dv := by
  apply List.ext_getElem?
  intro i
  simp only [fm_fv, List.getElem?_mapIdx, List.getElem?_map]
  cases hf : fl[i]? with
  | none => rfl
  | some f =>
    rcases h f (List.mem_of_getElem? hf) with rfl | rfl <;> rfl
section CROWS
variable {p : Program} {l : Launch} {e : Env} {R : Room} {s : State} {m : MethodId} {args : Array Value} {below : List Frame} {meth : Method} {c : Code} {H : Heap} {locs : List Loc} {cells slots : Nat} {Q : State → Prop}
variable {cc : ByteArray} {pc : Nat} {ls : Array Slot} {rest : List Value} {G : fm_G} {T T1 : cn_T} {q : Nat} {w0 : Cond} {own : String} {nL : Nat} {ret : Option FieldType} {g : JFrame}
theorem cn_size (hK : cn_K G s T H locs cells) (hB : G.2.2 ≤ s.heap.size) (k : H.size = G.2.2 + T.1.length → W p l e R s m args below meth c H locs cells slots Q g) : W p l e R s m args below meth c H locs cells slots Q g := by
  intro U hU X
  have h1 : H.size ≤ s.heap.size + cells := by
    have := X.heapSize
    rw [hU] at this
    exact this
  have h2 : G.2.2 + T.1.length ≤ H.size := by
    by_cases h0 : T.1.length = 0
    · have := hK.2.1.1
      omega
    · have h3 := (hK.1 (T.1.length - 1) _ (fm_get G _ _ (by omega))).lt
      have h4 : G.2.2 + (T.1.length - 1) < H.size := h3
      omega
  have h5 := hK.2.2
  exact k (by omega) U hU X
theorem cn_new (C0 : cn_C p s m args meth c G w0 own cc nL ret) {idx ci N0 : Nat} {fl : List (Option (Option Nat))} (hN : cn_N own idx ci N0 fl) (hK : cn_K G s T H locs cells) (hf : cells + 1 ≤ R.cells ∧ slots + N0 ≤ R.slots) (hdg : decode cc pc = .ok (.new idx, 3))
    (kk : ∀ (H1 : Heap), cn_K G s (cn_ad T (.inr (.inr (ci, fl)))) H1 locs (cells + 1) → W p l e R s m args below meth c H1 locs (cells + 1) (slots + N0) Q (F0 m (pc + 3) ls (.ref (G.2.2 + T.1.length) :: rest))) : W p l e R s m args below meth c H locs cells slots Q (F0 m pc ls rest) := by
  obtain ⟨⟨hx, hb, -, -, hown, hts, hSx, -⟩, -, hB⟩ := C0
  refine cn_size hK hB fun hsz => ?_
  obtain ⟨C, Tt, ty, hc, hin, hty, w1, w2, w3, hfl, hdf⟩ := hN
  have hKn := hSx.1.1 ci _ hc
  refine W.newcK hx hb hown (hts _ (List.mem_cons_of_mem _ w1)) (hts _ (List.mem_cons_of_mem _ w2)) (hts _ (List.mem_cons_of_mem _ w3)) rfl hdg hf.1 hf.2 hKn.2.1 hsz fun H1 kC hkC e1 z1 o1 => ?_
  refine kk H1 ⟨cn_push hK.1 (fun k hk => o1 _ (by omega)) ?_, ⟨?_, ?_, hK.2.1.2.2⟩, by have := hK.2.2; rw [cn_len_ad]; omega⟩
  · refine ⟨_, hc, ?_⟩
    show t_OB (G.2.2 + T.1.length) (G.1.1 ci) N0 (G.1.2 ci) H1 (vp_V (fm_fv G.2.2 ((cn_M (cn_ad T _)).1 T.1.length) fl))
    rw [cn_M_new, cn_fv_new hfl]
    exact (u_born ty hts (fun w hw => List.mem_cons_of_mem _ (hin w hw)) hKn hkC e1 hty).to hdf
  · have := hK.2.1.1
    omega
  · intro x h1 h2
    have := hK.2.1.1
    rw [o1 x (by omega)]
    exact hK.2.1.2.1 x h1 h2
/-- a cell that is an array of numbers, when it is new -/
theorem cn_cell0 {T : cn_T} {ty : FieldType} {n : Nat} {cA : ClassId} (hty : ty = .int ∨ ty = .boolean ∨ ty = .long ∨ ty = .float ∨ ty = .double) : vp_cell cA (n, fm_nv T.1.length ty (cn_M (cn_ad T (.inl (ty, n))))) = arrV cA n (fun _ => defaultValue ty) := by
  rcases hty with rfl | rfl | rfl | rfl | rfl
  · show vp_cell cA (n, .inl ((cn_M (cn_ad T _)).1 T.1.length)) = _
    rw [cn_M_new]
    rfl
  · show vp_cell cA (n, .inl ((cn_M (cn_ad T _)).1 T.1.length)) = _
    rw [cn_M_new]
    rfl
  · rfl
  · rfl
  · rfl
theorem cn_prim (C0 : cn_C p s m args meth c G w0 own cc nL ret) {at0 : ArrayType} {ty : FieldType} (hta : newarray.typeOf at0 = ty) (hty : ty = .int ∨ ty = .boolean ∨ ty = .long ∨ ty = .float ∨ ty = .double) (hw : Cond.arrayClass ty ∈ gT) (hK : cn_K G s T H locs cells) {n : Int32} {N0 : Nat} (hn : ¬ n < 0) (hN : n.toNatClampNeg = N0) (hNb : N0 ≤ 1000) (hf : cells + 1 ≤ R.cells ∧ slots + N0 ≤ R.slots) (hdg : decode cc pc = .ok (.newarray at0, 2))
    (kk : ∀ (H1 : Heap), cn_K G s (cn_ad T (.inl (ty, N0))) H1 locs (cells + 1) → W p l e R s m args below meth c H1 locs (cells + 1) (slots + N0) Q (F0 m (pc + 2) ls (.ref (G.2.2 + T.1.length) :: rest))) : W p l e R s m args below meth c H locs cells slots Q (F0 m pc ls (.int n :: rest)) := by
  obtain ⟨⟨hx, hb, -, -, hown, hts, hSx, -⟩, -, hB⟩ := C0
  refine cn_size hK hB fun hsz => ?_
  subst hta
  refine va_newaK hx hb (hts _ (List.mem_cons_of_mem _ hw)) rfl hdg rfl hn hN ?_ hf.1 hf.2 hsz fun H1 cA e1 z1 o1 hAr hNm => ?_
  · have : componentBytes (newarray.typeOf at0) ≤ 8 := by
      rcases hty with h | h | h | h | h <;> rw [h] <;> decide
    calc N0 * componentBytes (newarray.typeOf at0) ≤ 1000 * 8 := Nat.mul_le_mul hNb this
      _ ≤ 536870912 := by decide
  · have hcA : cA = G.2.1 (newarray.typeOf at0) := by
      have hmem : ∃ t0 : Nat, fm_tyL[t0]? = some (newarray.typeOf at0) := by
        rcases hty with h | h | h | h | h <;> rw [h]
        · exact ⟨0, rfl⟩
        · exact ⟨1, rfl⟩
        · exact ⟨2, rfl⟩
        · exact ⟨3, rfl⟩
        · exact ⟨4, rfl⟩
      obtain ⟨t0, ht⟩ := hmem
      have h2 := (hSx.1.2 t0 (G.2.1 (newarray.typeOf at0), newarray.typeOf at0) (by simp [fm_tys, ht])).2
      have h3 : s.vm.findClass ("[" ++ (newarray.typeOf at0).toString) = some (G.2.1 (newarray.typeOf at0)) := by
        rcases hty with h | h | h | h | h <;> rw [h] at h2 ⊢ <;> exact h2
      exact Option.some.inj (hNm.symm.trans h3)
    refine kk H1 ⟨cn_push hK.1 (fun k hk => o1 _ (by omega)) ?_, ⟨?_, ?_, hK.2.1.2.2⟩, by have := hK.2.2; rw [cn_len_ad]; omega⟩
    · show H1[G.2.2 + T.1.length]? = some (vp_cell _ (N0, _))
      rw [cn_cell0 hty, e1, hcA]
    · have := hK.2.1.1
      omega
    · intro x h1 h2
      have := hK.2.1.1
      rw [o1 x (by omega)]
      exact hK.2.1.2.1 x h1 h2
theorem cn_refs (C0 : cn_C p s m args meth c G w0 own cc nL ret) {idx : Nat} {C : String} (hl : Cond.classLink own idx C ∈ gT) (hao : va_AO C s) {t0 : Nat} (ht : fm_tyL[t0]? = some (.object C)) (hK : cn_K G s T H locs cells) {n : Int32} {N0 : Nat} (hn : ¬ n < 0) (hN : n.toNatClampNeg = N0) (hNb : N0 ≤ 1000) (hf : cells + 1 ≤ R.cells ∧ slots + N0 ≤ R.slots) (hdg : decode cc pc = .ok (.anewarray idx, 3))
    (kk : ∀ (H1 : Heap), cn_K G s (cn_ad T (.inr (.inl (.object C, List.replicate N0 none)))) H1 locs (cells + 1) → W p l e R s m args below meth c H1 locs (cells + 1) (slots + N0) Q (F0 m (pc + 3) ls (.ref (G.2.2 + T.1.length) :: rest))) : W p l e R s m args below meth c H locs cells slots Q (F0 m pc ls (.int n :: rest)) := by
  obtain ⟨⟨hx, hb, -, -, hown, hts, hSx, -⟩, -, hB⟩ := C0
  refine cn_size hK hB fun hsz => ?_
  subst hN
  refine W.anew hx hb hown (hts _ (List.mem_cons_of_mem _ hl)) (va_AO.use hao) rfl hdg rfl hn (by omega) hf.1 hf.2 fun cA kA comp h1 h2 h3 h4 => ?_
  have hcA : cA = G.2.1 (.object C) := by
    obtain ⟨kA', comp', -, -, -, h9⟩ := (hSx.1.2 t0 (G.2.1 (.object C), .object C) (by simp [fm_tys, ht])).2
    exact Option.some.inj (h1.symm.trans h9)
  subst hcA
  have e1 : (H.push ({ cls := G.2.1 (.object C), slots := Array.replicate n.toNatClampNeg .null, vm := .none } : Cell))[H.size]? = some ({ cls := G.2.1 (.object C), slots := Array.replicate n.toNatClampNeg .null, vm := .none } : Cell) := by simp
  have o1 : ∀ x, x < H.size → (H.push ({ cls := G.2.1 (.object C), slots := Array.replicate n.toNatClampNeg .null, vm := .none } : Cell))[x]? = H[x]? := fun x hx => by
    rw [Array.getElem?_push, if_neg (Nat.ne_of_lt hx)]
  have z1 : (H.push ({ cls := G.2.1 (.object C), slots := Array.replicate n.toNatClampNeg .null, vm := .none } : Cell)).size = H.size + 1 := by simp
  rw [hsz]
  generalize (H.push ({ cls := G.2.1 (.object C), slots := Array.replicate n.toNatClampNeg .null, vm := .none } : Cell)) = H1 at e1 o1 z1
  refine kk H1 ⟨cn_push hK.1 (fun k hk => o1 _ (by omega)) ?_, ⟨?_, ?_, hK.2.1.2.2⟩, by have := hK.2.2; rw [cn_len_ad]; omega⟩
  · show H1[G.2.2 + T.1.length]? = some (vp_cell (G.2.1 (.object C)) ((List.replicate n.toNatClampNeg (none : Option Nat)).length, .inr (.inr (.inr (.inr (fun j => ((List.replicate n.toNatClampNeg none).getD j none).map (fun r => G.2.2 + r)))))))
    rw [← hsz, e1, vp_cell_q, arrV_new, List.length_replicate]
    refine congrArg (fun f => some (arrV (G.2.1 (.object C)) n.toNatClampNeg f)) ?_
    funext j
    simp only [List.getD_eq_getElem?_getD, List.getElem?_replicate]
    by_cases hj : j < n.toNatClampNeg <;> simp [hj, va_rf]
  · have := hK.2.1.1
    omega
  · intro x h1 h2
    have := hK.2.1.1
    rw [o1 x (by omega)]
    exact hK.2.1.2.1 x h1 h2
theorem cn_geti (C0 : cn_C p s m args meth c G w0 own cc nL ret) {idx ci j r : Nat} (hF : fm_F own idx ci j) (hK : cn_K G s T H locs cells) (hg : cn_gr q ci j T = some r) (hdg : decode cc pc = .ok (.getfield idx, 3))
    (kk : W p l e R s m args below meth c H locs cells slots Q (F0 m (pc + 3) ls (.ref (G.2.2 + r) :: rest))) : W p l e R s m args below meth c H locs cells slots Q (F0 m pc ls (.ref (G.2.2 + q) :: rest)) := by
  obtain ⟨fl, hs, hr⟩ := cn_gr_of hg
  obtain ⟨h1, h2⟩ := cn_sh_of hs
  exact r_get C0.1 hF hK.1 h2 h1 (fm_fv_getr hr) hdg kk
theorem cn_puti (C0 : cn_C p s m args meth c G w0 own cc nL ret) {idx ci j : Nat} {ty : FieldType} (hF : fm_Fp own idx ci j ty) {v : Int32} (hn : narrow ty (.int v) = .int v) (hfit : fits ty (.int v) = true) (hK : cn_K G s T H locs cells) (hg : cn_pi q ci j v T = some T1) (hdg : decode cc pc = .ok (.putfield idx, 3))
    (kk : ∀ (H1 : Heap) (locs1 : List Loc), cn_K G s T1 H1 locs1 cells → W p l e R s m args below meth c H1 locs1 cells slots Q (F0 m (pc + 3) ls rest)) : W p l e R s m args below meth c H locs cells slots Q (F0 m pc ls (.int v :: .ref (G.2.2 + q) :: rest)) := by
  obtain ⟨fl, hs, hr, rfl⟩ := cn_pi_of hg
  obtain ⟨h1, h2⟩ := cn_sh_of hs
  refine r_put C0.1 hF hK.1 hK.2.1 h2 h1 hr hn hfit hdg fun H1 locs1 g1 g2 => kk H1 locs1 ⟨?_, g2, hK.2.2⟩
  have hM : cn_M (T.1, cn_st T.2 q j v) = fm_sI (cn_M T) q j v := by
    show (cn_lk (cn_st T.2 q j v), _) = (fm_u (cn_lk T.2) q j v, _)
    rw [cn_st_lk]
    rfl
  show fm_P G T.1.length (cn_sh T) (cn_M (T.1, cn_st T.2 q j v)) H1
  rw [hM]
  exact g1
/-- a final field is put -/
def cn_Ff (own : String) (idx ci k : Nat) (ty : FieldType) : Prop := ∃ (C : String) (T : u_T) (N0 : Nat) (t0 : Nat → FieldType), classes[ci]? = some (C, T, N0) ∧ k < N0 ∧ (∀ w ∈ u_ws C T N0, w ∈ gT) ∧ (T k).1 = C ∧ C = own ∧ (∀ k, k < N0 → parseFieldDescriptor (T k).2.2.1 = some (t0 k)) ∧ (∀ a, a < N0 → ∀ b, b < N0 → a ≠ b → (T a).2.1 ≠ (T b).2.1) ∧ t0 k = ty ∧ (T k).2.2.2 = true ∧ Cond.fieldLink own idx C (T k).2.1 (T k).2.2.1 ∈ gT
theorem cn_putn (C0 : cn_C p s m args meth c G w0 own cc nL ret) (hnm : meth.name = "<init>") {idx ci j : Nat} (hF : cn_Ff own idx ci j .int) {v : Int32} (hK : cn_K G s T H locs cells) (hg : cn_pi q ci j v T = some T1) (hdg : decode cc pc = .ok (.putfield idx, 3))
    (kk : ∀ (H1 : Heap) (locs1 : List Loc), cn_K G s T1 H1 locs1 cells → W p l e R s m args below meth c H1 locs1 cells slots Q (F0 m (pc + 3) ls rest)) : W p l e R s m args below meth c H locs cells slots Q (F0 m pc ls (.int v :: .ref (G.2.2 + q) :: rest)) := by
  obtain ⟨fl, hs, hr, rfl⟩ := cn_pi_of hg
  obtain ⟨h1, h2⟩ := cn_sh_of hs
  obtain ⟨⟨hx, hb, -, -, hown, hts, hSx, -⟩, -, hB⟩ := C0
  obtain ⟨C, Tt, N0, t0, hc, hk, hin, g1, g2, hty, hnn, ht, hfin, hl⟩ := hF
  subst g2
  have he : (fm_wl G T.1.length (cn_sh T) (cn_M T))[q]? = some (G.2.2 + q, .inr (ci, fm_fv G.2.2 ((cn_M T).1 q) fl)) := by
    rw [fm_get G _ _ h2, h1]
    rfl
  have hlen : j < (fm_fv G.2.2 ((cn_M T).1 q) fl).length := by
    have := (List.getElem?_eq_some_iff.mp hr).1
    simpa [fm_fv] using this
  have hd : parseFieldDescriptor (Tt j).2.2.1 = some .int := by rw [hty j hk, ht]
  refine va_putF (ref := C) hx hb hts (fun w hw => List.mem_cons_of_mem _ (hin w hw)) t0 hty hnn hown hSx.1 hK.1 (fm_D G _ _ _) hK.2.1 q he hc j hk (hts _ (List.mem_cons_of_mem _ hl)) (fun x h => by rw [g1] at h; exact h) hfin hnm g1 hd rfl rfl hlen hdg fun H1 locs1 a1 _ a3 => kk H1 locs1 ⟨?_, a3, hK.2.2⟩
  have hset : (fm_wl G T.1.length (cn_sh T) (cn_M T)).set q (G.2.2 + q, .inr (ci, (fm_fv G.2.2 ((cn_M T).1 q) fl).set j (.int v))) = fm_wl G T.1.length (cn_sh T) (fm_sI (cn_M T) q j v) := by
    refine fm_set G _ _ _ h2 ?_ (fun i hi => fm_ct_I hi)
    rw [h1, fm_fv_set hr]
    rfl
  rw [hset] at a1
  have hM : cn_M (T.1, cn_st T.2 q j v) = fm_sI (cn_M T) q j v := by
    show (cn_lk (cn_st T.2 q j v), _) = (fm_u (cn_lk T.2) q j v, _)
    rw [cn_st_lk]
    rfl
  show fm_P G T.1.length (cn_sh T) (cn_M (T.1, cn_st T.2 q j v)) H1
  rw [hM]
  exact a1
/-- the cell's shape is set -/
theorem cn_wl_set {x : fm_Sh} {E : va_E} (hq : q < T.1.length) (he : fm_ct G q x (cn_M T) = E) : (fm_wl G T.1.length (cn_sh T) (cn_M T)).set q (G.2.2 + q, E) = fm_wl G (T.1.set q x, T.2).1.length (cn_sh (T.1.set q x, T.2)) (cn_M (T.1.set q x, T.2)) := by
  have hM : cn_M (T.1.set q x, T.2) = cn_M T := rfl
  rw [hM, show (T.1.set q x, T.2).1.length = T.1.length by simp]
  apply List.ext_getElem?
  intro i
  by_cases hi : i < T.1.length
  · by_cases hik : i = q
    · subst hik
      rw [List.getElem?_set_self (by simpa [fm_wl] using hi), fm_get G _ _ hi]
      have : cn_sh (T.1.set i x, T.2) i = x := by simp [cn_sh, hi]
      rw [this, he]
    · rw [List.getElem?_set_ne (Ne.symm hik), fm_get G _ _ hi, fm_get G _ _ hi]
      have : cn_sh (T.1.set q x, T.2) i = cn_sh T i := by
        simp only [cn_sh, List.getD_eq_getElem?_getD]
        rw [List.getElem?_set_ne (Ne.symm hik)]
      rw [this]
  · rw [List.getElem?_eq_none (by simp [fm_wl]; omega), List.getElem?_eq_none (by simp [fm_wl]; omega)]
theorem cn_putr (C0 : cn_C p s m args meth c G w0 own cc nL ret) (hnm : meth.name = "<init>") {idx ci j r : Nat} {ty : FieldType} (hF : cn_Ff own idx ci j ty) (hr : ty.isReference = true) (hK : cn_K G s T H locs cells) (hg : cn_pf q ci j r T = some T1) (hdg : decode cc pc = .ok (.putfield idx, 3))
    (kk : ∀ (H1 : Heap) (locs1 : List Loc), cn_K G s T1 H1 locs1 cells → W p l e R s m args below meth c H1 locs1 cells slots Q (F0 m (pc + 3) ls rest)) : W p l e R s m args below meth c H locs cells slots Q (F0 m pc ls (.ref (G.2.2 + r) :: .ref (G.2.2 + q) :: rest)) := by
  obtain ⟨fl, hs, hf, rfl⟩ := cn_pf_of hg
  obtain ⟨h1, h2⟩ := cn_sh_of hs
  obtain ⟨⟨hx, hb, -, -, hown, hts, hSx, -⟩, -, hB⟩ := C0
  obtain ⟨C, Tt, N0, t0, hc, hk, hin, g1, g2, hty, hnn, ht, hfin, hl⟩ := hF
  subst g2
  have he : (fm_wl G T.1.length (cn_sh T) (cn_M T))[q]? = some (G.2.2 + q, .inr (ci, fm_fv G.2.2 ((cn_M T).1 q) fl)) := by
    rw [fm_get G _ _ h2, h1]
    rfl
  have hlen : j < (fm_fv G.2.2 ((cn_M T).1 q) fl).length := by
    have := (List.getElem?_eq_some_iff.mp hf).1
    simpa [fm_fv] using this
  have hd : parseFieldDescriptor (Tt j).2.2.1 = some ty := by rw [hty j hk, ht]
  have hn1 : narrow ty (.ref (G.2.2 + r)) = .ref (G.2.2 + r) := by cases ty <;> first | rfl | cases hr
  have hn2 : fits ty (.ref (G.2.2 + r)) = true := by cases ty <;> first | rfl | cases hr
  refine va_putF (ref := C) hx hb hts (fun w hw => List.mem_cons_of_mem _ (hin w hw)) t0 hty hnn hown hSx.1 hK.1 (fm_D G _ _ _) hK.2.1 q he hc j hk (hts _ (List.mem_cons_of_mem _ hl)) (fun x h => by rw [g1] at h; exact h) hfin hnm g1 hd hn1 hn2 hlen hdg fun H1 locs1 a1 _ a3 => kk H1 locs1 ⟨?_, a3, by rw [hK.2.2]; simp⟩
  have hset := cn_wl_set (G := G) (T := T) (x := .inr (.inr (ci, fl.set j (some (some r))))) h2 rfl
  have hE : fm_ct G q (.inr (.inr (ci, fl.set j (some (some r))))) (cn_M T) = .inr (ci, (fm_fv G.2.2 ((cn_M T).1 q) fl).set j (.ref (G.2.2 + r))) := by
    show (Sum.inr (ci, fm_fv G.2.2 ((cn_M T).1 q) (fl.set j (some (some r)))) : va_E) = _
    refine congrArg (fun z => (Sum.inr (ci, z) : va_E)) ?_
    apply List.ext_getElem?
    intro i
    by_cases hi : i = j
    · subst hi
      rw [List.getElem?_set_self hlen]
      have h9 : i < fl.length := (List.getElem?_eq_some_iff.mp hf).1
      simp [fm_fv, h9, fm_vl]
    · rw [List.getElem?_set_ne (Ne.symm hi)]
      simp only [fm_fv, List.getElem?_mapIdx]
      rw [List.getElem?_set_ne (Ne.symm hi)]
  rw [hE] at hset
  rw [hset] at a1
  exact a1
theorem cn_ast (C0 : cn_C p s m args meth c G w0 own cc nL ret) {ci r : Nat} {i : Int32} {i0 : Nat} (hi : i.toInt = i0) (hK : cn_K G s T H locs cells) (hg : cn_as q i0 ci r T = some T1) (hdg : decode cc pc = .ok (.aastore, 1))
    (kk : ∀ (H1 : Heap) (locs1 : List Loc), cn_K G s T1 H1 locs1 cells → W p l e R s m args below meth c H1 locs1 cells slots Q (F0 m (pc + 1) ls rest)) : W p l e R s m args below meth c H locs cells slots Q (F0 m pc ls (.ref (G.2.2 + r) :: .int i :: .ref (G.2.2 + q) :: rest)) := by
  obtain ⟨rs, C, fl, hs, hs2, hc, h5, h6, h7, rfl⟩ := cn_as_of hg
  obtain ⟨h1, h2⟩ := cn_sh_of hs
  obtain ⟨h3, h4⟩ := cn_sh_of hs2
  obtain ⟨⟨hx, hb, -, -, hown, hts, hSx, -⟩, -, hB⟩ := C0
  obtain ⟨t0, ht⟩ := List.getElem?_of_mem h7
  have he : (fm_wl G T.1.length (cn_sh T) (cn_M T))[q]? = some (G.2.2 + q, .inl (G.2.1 (.object C.1), rs.length, .inr (.inr (.inr (.inr (fun j => (rs.getD j none).map (fun r => G.2.2 + r))))))) := by
    rw [fm_get G _ _ h2, h1]
    rfl
  have he2 : (fm_wl G T.1.length (cn_sh T) (cn_M T))[r]? = some (G.2.2 + r, .inr (ci, fm_fv G.2.2 ((cn_M T).1 r) fl)) := by
    rw [fm_get G _ _ h4, h3]
    rfl
  have hn : i.toNatClampNeg = i0 := by
    show i.toInt.toNat = i0
    omega
  refine va_astq hx hb hSx.1 hK.1 (fm_D G _ _ _) hK.2.1 q t0 r ci he (by simp [fm_tys, ht]) he2 hc (r_in (by omega)) hdg fun H1 locs1 a1 _ a3 => kk H1 locs1 ⟨?_, a3, by rw [hK.2.2]; simp⟩
  have hset := cn_wl_set (G := G) (T := T) (x := .inr (.inl (.object C.1, rs.set i0 (some r)))) h2 rfl
  have hE : fm_ct G q (.inr (.inl (.object C.1, rs.set i0 (some r)))) (cn_M T) = .inl (G.2.1 (.object C.1), rs.length, .inr (.inr (.inr (.inr (va_up (fun j => (rs.getD j none).map (fun r => G.2.2 + r)) i.toNatClampNeg (some (G.2.2 + r))))))) := by
    show (Sum.inl (G.2.1 (.object C.1), (rs.set i0 (some r)).length, Sum.inr (Sum.inr (Sum.inr (Sum.inr (fun j => ((rs.set i0 (some r)).getD j none).map (fun r => G.2.2 + r)))))) : va_E) = _
    rw [List.length_set, hn]
    refine congrArg (fun z => (Sum.inl (G.2.1 (.object C.1), rs.length, Sum.inr (Sum.inr (Sum.inr (Sum.inr z)))) : va_E)) ?_
    funext j
    simp only [va_up, List.getD_eq_getElem?_getD]
    by_cases hj : j = i0
    · subst hj
      simp [h5]
    · rw [if_neg hj, List.getElem?_set_ne (Ne.symm hj)]
  rw [hE] at hset
  rw [hset] at a1
  exact a1
theorem cn_obj (C0 : cn_C p s m args meth c G w0 own cc nL ret) {idx : Nat} (hl : Cond.methodLink own idx Lib.objectInit ∈ gT) (hi : Cond.instanceMethod Lib.objectInit ∈ gT) (hc : Cond.code Lib.objectInit ⟨#[0xb1]⟩ 1 none ∈ gT) (hsz : ls.size = nL) (hR : 1 ≤ R.frames ∧ 12 ≤ R.locals) {a : Nat} (hdg : decode cc pc = .ok (.invokespecial idx, 3))
    (kk : W p l e R s m args below meth c H locs cells slots Q (F0 m (pc + 3) ls [])) : W p l e R s m args below meth c H locs cells slots Q (F0 m pc ls [.ref a]) := by
  obtain ⟨⟨hx, hb, -, hml, hown, hts, hSx, -⟩, -, hB⟩ := C0
  exact W.objInit hx hb hown (hts _ (List.mem_cons_of_mem _ hl)) (hts _ (List.mem_cons_of_mem _ hi)) (hts _ (List.mem_cons_of_mem _ hc)) rfl (hsz.trans hml.symm) rfl hdg hR.1 (by show 2 * 0 + 0 + 12 ≤ _; omega) kk
/-- a constructor has been run -/
theorem cn_ran {mc ms : Nat} {st0 : List Value} {a : Array Value} (hr : va_Run p l e R s m args below meth c H locs cells slots mc ms (F0 m pc ls st0) rest (cn_Q G T T1 mc a) (fm_A G.2.2)) (hK : cn_K G s T H locs cells)
    (kk : ∀ (H1 : Heap) (locs1 : List Loc), cn_K G s T1 H1 locs1 (cells + mc) → W p l e R s m args below meth c H1 locs1 (cells + mc) (slots + ms) Q (F0 m (pc + 3) ls rest)) : W p l e R s m args below meth c H locs cells slots Q (F0 m pc ls st0) := by
  intro U hU X
  obtain ⟨v', st₀, t, U', L, h0, X', hL, e1, e2, ⟨hv, hP1, hlen, hz, hk⟩, st⟩ := hr U hU X
  cases hv
  rw [h0] at hz hk
  have hS := hK.2.1
  obtain ⟨t2, a1, b1⟩ := kk U'.heap (locs ++ L) ⟨by rw [e1]; exact hP1, ⟨Nat.le_trans hS.1 (by rw [e1]; exact hz), fun q h1 h2 => by rw [e1, hk q (Nat.lt_of_lt_of_le h1 hS.1) h2]; exact hS.2.1 q h1 h2, fun q hq => by
      rcases List.mem_append.mp hq with h | h
      · exact hS.2.2 q h
      · exact hL q h⟩, by have := hK.2.2; omega⟩ U' rfl X'
  exact ⟨t2, st t2 a1, b1⟩
abbrev cMet (l : Launch) (y : MethodName) (bc : ByteArray) (n : Nat) (rm : Room) (G : fm_G) (T : cn_T) (av : List Value) (T' : cn_T) (mc ms : Nat) : Prop := Met l y (fm_W y bc n none) rm (cn_Pc G T av) (cn_Q G T T' mc) mc ms (fm_A G.2.2)
def cn_LI (own : String) (idx : Nat) (y : MethodName) (bc : ByteArray) (n na : Nat) : Prop := (Cond.initialized y.cls ∈ gT ∧ (Cond.methodLink own idx y ∈ gT ∨ ∃ host, Cond.methodLinkNest own idx y host ∈ nW) ∧ Cond.instanceMethod y ∈ gT ∧ y.name = "<init>" ∧ Cond.code y bc n none ∈ gT) ∧ (y.cls ≠ "java/lang/invoke/MethodHandle" ∧ y.cls ≠ "java/lang/invoke/VarHandle" ∧ (parseMethodDescriptor y.desc).map (fun d => d.parameters.length) = some na)
theorem cn_callI (C0 : cn_C p s m args meth c G w0 own cc nL ret) {idx : Nat} {y : MethodName} {bc : ByteArray} {n na : Nat} (hL : cn_LI own idx y bc n na) {rm : Room} {As : List Value} {mc ms : Nat} (hM : cMet l y bc n rm G T (.ref (G.2.2 + q) :: As) T1 mc ms) (hrm : rm.cells = mc ∧ rm.slots = ms) (hR : rm.frames + 1 ≤ R.frames ∧ 8 + (n + 11) + rm.locals ≤ R.locals)
    (hK : cn_K G s T H locs cells) (hn : As.length = na) (hsz : ls.size = nL) {st0 : List Value} (hst : st0 = As.reverse ++ .ref (G.2.2 + q) :: rest) (hw : (rest.map fun v => v.category).sum ≤ 8) (hdg : decode cc pc = .ok (.invokespecial idx, 3)) (hf : cells + mc ≤ R.cells ∧ slots + ms ≤ R.slots)
    (kk : ∀ (H1 : Heap) (locs1 : List Loc), cn_K G s T1 H1 locs1 (cells + mc) → W p l e R s m args below meth c H1 locs1 (cells + mc) (slots + ms) Q (F0 m (pc + 3) ls rest)) : W p l e R s m args below meth c H locs cells slots Q (F0 m pc ls st0) := by
  obtain ⟨⟨hx, hb, -, hml, hown, hts, hSx, -⟩, hXx, hB⟩ := C0
  refine cn_size hK hB fun hsize => ?_
  obtain ⟨⟨h1, h2, h3, h4, h5⟩, hd⟩ := hL
  have hpre : PreS s H (cn_Pc G T (.ref (G.2.2 + q) :: As)) (.ref (G.2.2 + q) :: As) := ⟨cn_blind G T _, fun U hU hW => ⟨rfl, ⟨hSx.to hU hW hK.2.1, hXx.moved hW.alike⟩, by rw [hU]; exact hK.1, by rw [hU]; exact hsize⟩⟩
  rcases h2 with h2 | ⟨host, h2⟩
  · exact cn_ran (va_runI (As := As) (rest := rest) (b := G.2.2 + q) ⟨hx, hb, hml, hown, hts⟩ hM (cwI na hts (fm_good h5) rfl hrm.1 hrm.2 (hts _ (List.mem_cons_of_mem _ h1)) (hts _ (List.mem_cons_of_mem _ h2)) (hts _ (List.mem_cons_of_mem _ h3)) h4 hd hR) hpre rfl hn hsz hst (by show 2 * 0 + _ ≤ 8; omega) hdg hf) hK kk
  · exact cn_ran (va_runIN (As := As) (rest := rest) (b := G.2.2 + q) (host := host) ⟨hx, hb, hml, hown, hts⟩ hM ⟨va_cnB na hts (fm_good h5) rfl hrm.1 hrm.2 (hSx.2.1 _ h2) (hts _ (List.mem_cons_of_mem _ h1)) hd hR, h4, hts _ (List.mem_cons_of_mem _ h3)⟩ hpre rfl hn hsz hst (by show 2 * 0 + _ ≤ 8; omega) hdg hf) hK kk
theorem cn_ret (C0 : cn_C p s m args meth c G w0 own cc nL none) {T0 : cn_T} (h0 : s.heap.size = G.2.2 + T0.1.length) (hK : cn_K G s T H locs cells) (hdg : decode cc pc = .ok (.return_, 1)) : W p l e R s m args below meth c H locs cells slots (MQ below (cn_Q G T0 T cells) args s cells slots (fm_A G.2.2)) (F0 m pc ls []) :=
  W.vret C0.1.1 C0.1.2.1 C0.1.2.2.1 (fun t ht _ => ⟨rfl, by rw [ht]; exact hK.1, by have := hK.2.2; omega, hK.2.1.F ht⟩) hK.2.1.2.2 hdg C0.1.2.2.2.2.2.2.2
end CROWS
/-- a constructor's contract out of its walk -/
theorem cn_met {l : Launch} {y : MethodName} {bc : ByteArray} {n : Nat} {rm : Room} {own : String} {G : fm_G} {T T' : cn_T} {av : List Value} {mc ms : Nat} (hy : plainName y.cls = true) (hown : y.cls = own) (hnm : y.name = "<init>") (hlen : (lg_sl av).length ≤ n)
    (body : ∀ (p : Program) (e : Env) (s : State) (m : MethodId) (args : Array Value) (below : List Frame) (meth : Method) (c : Code), cn_C p s m args meth c G (.code y bc n none) own bc n none → meth.name = "<init>" → s.heap.size = G.2.2 + T.1.length → cn_K G s T s.heap [] 0 → ∀ ls : Array Slot, lv_has ls n (lv_args 0 av) → W p l e rm s m args below meth c s.heap [] 0 0 (MQ below (cn_Q G T T' mc) args s mc ms (fm_A G.2.2)) (F0 m 0 ls [])) :
    cMet l y bc n rm G T av T' mc ms := by
  subst hown
  refine Met.ofW (cc := bc) (maxL := n) (ret := none) hy rfl ?_
  intro p e s m args below meth c s₁ B hml hv
  obtain ⟨rfl, ⟨hSx, hXx⟩, hP, hsz⟩ := hv
  have hts := atoms_spec (ws := fm_W y bc n none) B.pre
  have hown : s.vm.findClass y.cls = some m.cls := findClass_of_methodNamed B.named
  rw [lg_entry_eq]
  exact body p e s m _ below meth c ⟨⟨B.exec, B.bytes, B.returns, hml, hown, hts, hSx, B.notSynchronized⟩, hXx, by omega⟩ ((name_of_methodNamed B.named B.method).1.trans hnm) hsz ⟨hP, va_S.rf, by omega⟩ _ (lv_entry av hlen)
