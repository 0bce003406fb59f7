/-! methods that return or throw, over the flat memory -/
def fx_strs : List (String × Nat × String) := [("AllocationProfiler", 71, "no such parent"), ("AllocationProfiler", 79, "0 to 3 fields of a kind"), ("AllocationProfiler", 87, "no more types"), ("AllocationProfiler", 94, "no such type"), ("AllocationProfiler", 100, "no such operation"), ("AllocationProfiler", 103, "the draft is full"), ("AllocationProfiler", 112, "the draft has its ranges"), ("AllocationProfiler", 121, "no more methods"), ("AllocationProfiler", 127, "the draft is malformed"), ("AllocationProfiler", 273, "no such method"), ("AllocationProfiler", 138, "it was woven"), ("AllocationProfiler", 144, "no such interval"), ("AllocationProfiler", 146, "nothing to weave"), ("AllocationProfiler", 166, "no such what"), ("AllocationProfiler", 174, "no such i"), ("AllocationProfiler", 180, "no such instruction"), ("AllocationProfiler", 188, "no site there"), ("AllocationProfiler", 279, "no such thread"), ("AllocationProfiler", 203, "it cannot start now"), ("AllocationProfiler", 208, "1 to 200 steps"), ("AllocationProfiler", 217, "it has not ended"), ("AllocationProfiler", 227, "no such object"), ("AllocationProfiler", 277, "no such site"), ("AllocationProfiler", 233, "samples are not told by threads"), ("AllocationProfiler", 248, "no such entry")]
def fx_decl : List MethodName := [Bundle.initS "java/lang/RuntimeException", Bundle.initS "java/lang/Exception", Bundle.initS "java/lang/Throwable"]
def fx_S (G : fm_G) (U : State) : Prop := fm_S G U ∧ vx_Zq Bundle.tN "UNASSIGNED_STACK" Bundle.steD (fm_A G.2.2) U U.heap ∧ vx_Zq Bundle.tN "SUPPRESSED_SENTINEL" Bundle.listD (fm_A G.2.2) U U.heap ∧ (∀ q ∈ fx_strs, ∃ sa, vk_R q.1 q.2.1 q.2.2 sa U) ∧ (∀ y ∈ fx_decl, va_Nw (.declares y) U)
theorem fx_S.to {G : fm_G} {s U : State} {H : Heap} {locs : List Loc} (h : fx_S G s) (hU : U.heap = H) (hW : s.WarmedH U.vm) (hS : va_S (fm_A G.2.2) s.heap H locs) : fx_S G U := by
  obtain ⟨h1, h2, h3, h4, h5⟩ := h
  refine ⟨h1.to hU hW hS, ?_, ?_, fun q hq => ?_, fun y hy => va_Nw.warmD hW (h5 y hy)⟩
  · rw [hU]
    exact vx_Zq.moved hW.alike (h2.kept hS.2.1)
  · rw [hU]
    exact vx_Zq.moved hW.alike (h3.kept hS.2.1)
  · obtain ⟨sa, hsa⟩ := h4 q hq
    exact ⟨sa, vk_R.warm hW hsa⟩
theorem fx_S.blind {G : fm_G} {U : State} (g : JFrame) (mk : MethodId) (a : Array Value) (h : fx_S G U) : fx_S G (U.calling g mk a) := by
  obtain ⟨h1, h2, h3, h4, h5⟩ := h
  refine ⟨h1.blind g mk a, vx_Zq.moved (u := U) (U := U.calling g mk a) (Vm.Alike.refl U.vm) h2, vx_Zq.moved (u := U) (U := U.calling g mk a) (Vm.Alike.refl U.vm) h3, fun q hq => ?_, fun y hy => va_Nw.same rfl (u := U) (U := U.calling g mk a) rfl (h5 y hy)⟩
  obtain ⟨sa, hsa⟩ := h4 q hq
  exact ⟨sa, vk_R.warm (s := U) (U := U.calling g mk a) (State.WarmedH.refl U) hsa⟩
abbrev fx_O : Type := Option Value ⊕ String
def fx_c (o : fx_O) : Nat := match o with
  | .inl _ => 0
  | .inr _ => 1
def fx_s (o : fx_O) : Nat := match o with
  | .inl _ => 0
  | .inr _ => 6
def fx_Pc (G : fm_G) (M : fm_M) (av : List Value) : Array Value → State → Prop := fun v U => v = av.toArray ∧ fx_S G U ∧ kP G M U.heap
theorem fx_blind (G : fm_G) (M : fm_M) (av : List Value) : FrameBlind (fx_Pc G M av) := fun a _ g mk h => ⟨h.1, h.2.1.blind g mk a, h.2.2⟩
def fx_Q (G : fm_G) (o : fx_O) (M : fm_M) : Array Value → State → Outcome → State → Prop := match o with
  | .inl v => fm_Q G 212 shF v M
  | .inr _ => fun _ _ _ _ => False
def fx_X (G : fm_G) (o : fx_O) (M : fm_M) : String → State → State → Prop := match o with
  | .inl _ => fun _ _ _ => False
  | .inr E => fun E' st t => E' = E ∧ kP G M t.heap ∧ va_F (fm_A G.2.2) st t
abbrev fx_rm (fr lo : Nat) (o : fx_O) : Room := { frames := fr, cells := fx_c o, slots := fx_s o, locals := lo }
abbrev kxMet (l : Launch) (y : MethodName) (bc : ByteArray) (n : Nat) (rt : Option FieldType) (fr lo : Nat) (G : fm_G) (M : fm_M) (av : List Value) (o : fx_O) (M' : fm_M) : Prop := vx_Met l y (fm_W y bc n rt) (fx_rm fr lo o) (fx_Pc G M av) (fx_Q G o M') (fx_X G o M') (fx_c o) (fx_s o) (fm_A G.2.2)
def fx_C (l : Launch) (s : State) (c : Code) (G : fm_G) : Prop := l.stackTraces = false ∧ fx_S G s ∧ (∀ x ∈ c.exceptionTable.toList, False)
/-- what a throw of a class names -/
def fx_T (ik ic : Nat) (cls : String) (i1 : Nat) (b1 : ByteArray) : Prop := Cond.classLink "AllocationProfiler" ik cls ∈ gT ∧ Cond.initialized cls ∈ gT ∧ Bundle.fit cls = true ∧ (decode b1 0 = .ok (.aload_n 0, 1) ∧ decode b1 1 = .ok (.aload_n 1, 1) ∧ decode b1 2 = .ok (.invokespecial i1, 3) ∧ decode b1 5 = .ok (.return_, 1)) ∧ (∀ w ∈ (kx_own "AllocationProfiler" ic cls i1 b1).filter vx_no, w ∈ gT ∨ ∃ y ∈ fx_decl, w = .declares y)
theorem fx_ot {w : Cond} (h : w ∈ gT ∨ ∃ y ∈ fx_decl, w = .declares y) : vx_ot w = true := by
  rcases h with h | ⟨y, -, rfl⟩
  · unfold vx_ot
    rw [(List.mem_filter.mp h).2]
    simp
  · rfl
section XROWS
variable {p : Program} {l : Launch} {e : Env} {R : Room} {s : State} {m : MethodId} {args : Array Value} {below : List Frame} {meth : Method} {c : Code} {H : Heap} {locs : List Loc} {cells slots : Nat} {Q : State → Prop}
variable {cc : ByteArray} {pc : Nat} {ls : Array Slot} {rest : List Value} {G : fm_G} {M M1 : fm_M} {q : Nat} {w0 : Cond} {own : String} {nL : Nat} {ret : Option FieldType}
theorem x_thx {cls : String} (hP : kP G M H) (hS : kS G s H locs) : ∀ t : State, s.vm.Alike t.vm → H.size ≤ t.heap.size → (∀ q : Nat, q < H.size → t.heap[q]? = H[q]?) → fx_X G (.inr cls) M cls s t := by
  intro t _ hz hk
  refine ⟨rfl, fun k x hx => (hP k x hx).kept (hk x.1 (hP k x hx).lt), Nat.le_trans hS.1 hz, fun a h1 h2 => ?_⟩
  rw [hk a (Nat.lt_of_lt_of_le h1 hS.1)]
  exact hS.2.1 a h1 h2
theorem x_throw (C0 : fm_C p s m args meth c G w0 "AllocationProfiler" cc nL ret) (C1 : fx_C l s c G) {ik is ic i1 : Nat} {cls text : String} {b1 : ByteArray} (hT : fx_T ik ic cls i1 b1) (hs : ("AllocationProfiler", is, text) ∈ fx_strs) (hP : kP G M H) (hS : kS G s H locs) (hsz : ls.size = nL)
    (d0 : decode cc pc = .ok (.new ik, 3)) (d3 : decode cc (pc + 3) = .ok (.dup, 1)) (d4 : decode cc (pc + 4) = .ok (.ldc is, 2)) (d6 : decode cc (pc + 6) = .ok (.invokespecial ic, 3)) (d9 : decode cc (pc + 9) = .ok (.athrow, 1)) (hf : 5 < R.frames) (hlo : (rest.map fun v => v.category).sum + 82 ≤ R.locals) (hc : 1 ≤ R.cells) (hsl : 6 ≤ R.slots) :
    W p l e R s m args below meth c H locs 0 0 (vx_MQ below (fx_Q G (.inr cls) M) (fx_X G (.inr cls) M) args s (fx_c (.inr cls)) (fx_s (.inr cls)) (fm_A G.2.2)) (F0 m pc ls rest) := by
  obtain ⟨hx, hb, -, hml, hown, hts, hSx, hlk⟩ := C0
  obtain ⟨htr, ⟨-, h2, h3, h4, h5⟩, hex⟩ := C1
  obtain ⟨t1, t2, t3, ⟨t4, t5, t6, t7⟩, t8⟩ := hT
  obtain ⟨sa, hsa⟩ := h4 _ hs
  have g : ∀ w, w ∈ gT → w.before args s = true := fun w h => hts w (List.mem_cons_of_mem _ h)
  refine kx_throw (XC := fx_X G (.inr cls) M) (text := text) (sa := sa) hx hb htr hown t3 t4 t5 t6 t7 (g _ t1) (g _ t2) hsa ?_ ?_ h2 h3 hS (hsz.trans hml.symm) d0 d3 d4 d6 d9 (fun x h => (hex x h).elim) hf hlo (by simpa using hc) (by simpa using hsl) hlk (x_thx hP hS) hS.2.2 (Nat.le_refl 1) (Nat.le_refl 6)
  · intro w hw
    rcases t8 w hw with h | ⟨y, hy, rfl⟩
    · exact g w h
    · exact va_Nw.use rfl (h5 y hy)
  · intro w hw
    rcases List.mem_cons.mp hw with rfl | hw
    · exact fx_ot (Or.inl t1)
    · rcases List.mem_cons.mp hw with rfl | hw
      · exact fx_ot (Or.inl t2)
      · exact fx_ot (t8 w hw)
theorem x_throwW (C0 : fm_C p s m args meth c G w0 "AllocationProfiler" cc nL ret) (C1 : fx_C l s c G) {ik is ic i1 : Nat} {cls text : String} {b1 : ByteArray} (hT : fx_T ik ic cls i1 b1) (hs : ("AllocationProfiler", is, text) ∈ fx_strs) (hP : kP G M H) (hS : kS G s H locs) (hsz : ls.size = nL)
    (d0 : decode cc pc = .ok (.new ik, 3)) (d3 : decode cc (pc + 3) = .ok (.dup, 1)) (d4 : decode cc (pc + 4) = .ok (.ldc_w is, 3)) (d7 : decode cc (pc + 7) = .ok (.invokespecial ic, 3)) (d10 : decode cc (pc + 10) = .ok (.athrow, 1)) (hf : 5 < R.frames) (hlo : (rest.map fun v => v.category).sum + 82 ≤ R.locals) (hc : 1 ≤ R.cells) (hsl : 6 ≤ R.slots) :
    W p l e R s m args below meth c H locs 0 0 (vx_MQ below (fx_Q G (.inr cls) M) (fx_X G (.inr cls) M) args s (fx_c (.inr cls)) (fx_s (.inr cls)) (fm_A G.2.2)) (F0 m pc ls rest) := by
  obtain ⟨hx, hb, -, hml, hown, hts, hSx, hlk⟩ := C0
  obtain ⟨htr, ⟨-, h2, h3, h4, h5⟩, hex⟩ := C1
  obtain ⟨t1, t2, t3, ⟨t4, t5, t6, t7⟩, t8⟩ := hT
  obtain ⟨sa, hsa⟩ := h4 _ hs
  have g : ∀ w, w ∈ gT → w.before args s = true := fun w h => hts w (List.mem_cons_of_mem _ h)
  refine kx_throwW (XC := fx_X G (.inr cls) M) (text := text) (sa := sa) hx hb htr hown t3 t4 t5 t6 t7 (g _ t1) (g _ t2) hsa ?_ ?_ h2 h3 hS (hsz.trans hml.symm) d0 d3 d4 d7 d10 (fun x h => (hex x h).elim) hf hlo (by simpa using hc) (by simpa using hsl) hlk (x_thx hP hS) hS.2.2 (Nat.le_refl 1) (Nat.le_refl 6)
  · intro w hw
    rcases t8 w hw with h | ⟨y, hy, rfl⟩
    · exact g w h
    · exact va_Nw.use rfl (h5 y hy)
  · intro w hw
    rcases List.mem_cons.mp hw with rfl | hw
    · exact fx_ot (Or.inl t1)
    · rcases List.mem_cons.mp hw with rfl | hw
      · exact fx_ot (Or.inl t2)
      · exact fx_ot (t8 w hw)
/-- a run whose callee returned -/
theorem x_back {st0 : List Value} {v : Option Value} {a : Array Value} (hr : vx_Run p l e R s m args below meth c H locs cells slots 0 0 (F0 m pc ls st0) rest (fx_Q G (.inl v) M1 a) (fx_X G (.inl v) M1) (fm_A G.2.2)) (hS : kS G s H locs)
    (kk : ∀ (H1 : Heap) (locs1 : List Loc), kP G M1 H1 → kS G s H1 locs1 → W p l e R s m args below meth c H1 locs1 cells slots Q (F0 m (pc + 3) ls (v.toList ++ rest))) : W p l e R s m args below meth c H locs cells slots Q (F0 m pc ls st0) := by
  intro T hT X
  rcases hr T hT X with ⟨v', st₀, t, T', L, h0, X', hL, e1, e2, ⟨hv, hP1, hz, hk⟩, st⟩ | ⟨q, st₀, t, T', L, E, ce, h0, X', hL, e1, e2, hf, -⟩
  · cases hv
    rw [h0] at hz hk
    obtain ⟨t2, a1, b1⟩ := kk T'.heap (locs ++ L) (by rw [e1]; exact hP1) ⟨Nat.le_trans hS.1 (by rw [e1]; exact hz), fun q h1 h2 => by rw [e1, hk q (Nat.lt_of_lt_of_le h1 hS.1) h2]; exact hS.2.1 q h1 h2, fun q hq => by
        rcases List.mem_append.mp hq with h | h
        · exact hS.2.2 q h
        · exact hL q h⟩ T' rfl X'
    exact ⟨t2, st t2 a1, b1⟩
  · exact hf.elim
/-- a run whose callee threw -/
theorem x_thrown {st0 : List Value} {E : String} {a : Array Value} (hr : vx_Run p l e R s m args below meth c H locs cells slots 1 6 (F0 m pc ls st0) rest (fx_Q G (.inr E) M1 a) (fx_X G (.inr E) M1) (fm_A G.2.2)) (hS : kS G s H locs)
    (kk : ∀ (H1 : Heap) (locs1 : List Loc) (q9 : Nat) (ce : Cell), kP G M1 H1 → kS G s H1 locs1 → H1[q9]? = some ce → ce.vm = .none → s.vm.findClass E = some ce.cls → vx_W p l e R s m args below meth c H1 locs1 (cells + 1) (slots + 6) Q (F0 m pc ls rest) q9) : W p l e R s m args below meth c H locs cells slots Q (F0 m pc ls st0) := by
  intro T hT X
  rcases hr T hT X with ⟨v', st₀, t, T', L, h0, X', hL, e1, e2, hf, st⟩ | ⟨q, st₀, t, T', L, E', ce, h0, X', hL, e1, e2, ⟨rfl, hP1, hz, hk⟩, hce, hcv, hcl, st⟩
  · exact hf.elim
  · rw [h0] at hz hk
    obtain ⟨t2, a1, b1⟩ := kk T'.heap (locs ++ L) q ce (by rw [e1]; exact hP1) ⟨Nat.le_trans hS.1 (by rw [e1]; exact hz), fun q h1 h2 => by rw [e1, hk q (Nat.lt_of_lt_of_le h1 hS.1) h2]; exact hS.2.1 q h1 h2, fun q hq => by
        rcases List.mem_append.mp hq with h | h
        · exact hS.2.2 q h
        · exact hL q h⟩ (by rw [e1]; exact hce) hcv hcl T' rfl X'
    exact ⟨t2, st.trans a1, b1⟩
theorem x_runV (C0 : fm_C p s m args meth c G w0 own cc nL ret) (C1 : fx_S G s) {idx : Nat} {C : String} {y : MethodName} {bc : ByteArray} {n : Nat} {rt : Option FieldType} {na : Nat} (hL : fm_LV own idx C y bc n rt na) {fr lo : Nat} {As : List Value} {o : fx_O} (hM : kxMet l y bc n rt fr lo G M (.ref (G.2.2 + q) :: As) o M1) (hR : fr + 1 ≤ R.frames ∧ 8 + (n + 11) + lo ≤ R.locals)
    (hP : kP G M H) (hS : kS G s H locs) {ci : Nat} (hcl : cl q = some ci) (hc : fm_Ly C ci) (hn : As.length = na) (hsz : ls.size = nL) {st0 : List Value} (hst : st0 = As.reverse ++ .ref (G.2.2 + q) :: rest) (hw : (rest.map fun v => v.category).sum ≤ 8) (hdg : decode cc pc = .ok (.invokevirtual idx, 3)) (hf : cells + fx_c o ≤ R.cells ∧ slots + fx_s o ≤ R.slots) :
    vx_Run p l e R s m args below meth c H locs cells slots (fx_c o) (fx_s o) (F0 m pc ls st0) rest (fx_Q G o M1 (Value.ref (G.2.2 + q) :: As).toArray) (fx_X G o M1) (fm_A G.2.2) := by
  obtain ⟨hx, hb, -, hml, hown, hts, hSx, -⟩ := C0
  obtain ⟨T, N0, hc⟩ := hc
  obtain ⟨fl, hs, hq⟩ := cl_of hcl
  have he : (fm_wl G 212 shF M)[q]? = some (G.2.2 + q, .inr (ci, fm_fv G.2.2 (M.1 q) fl)) := by
    rw [fm_get G shF M hq, hs]
    rfl
  exact vx_runV (As := As) (rest := rest) (b := G.2.2 + q) ⟨hx, hb, hml, hown, hts⟩ hM (cwV na hts (fm_goodV hL) rfl rfl rfl hL.2 hR) ⟨fx_blind G M _, va_recv hSx.1 hP hc he, fun U hU hW => ⟨rfl, C1.to hU hW hS, by rw [hU]; exact hP⟩⟩ rfl hn hsz hst (by show 2 * 0 + _ ≤ 8; omega) hdg hf
theorem x_runS (C0 : fm_C p s m args meth c G w0 own cc nL ret) (C1 : fx_S G s) {idx : Nat} {y : MethodName} {bc : ByteArray} {n : Nat} {rt : Option FieldType} {na : Nat} (hL : fm_LS own idx y bc n rt na) {fr lo : Nat} {As : List Value} {o : fx_O} (hM : kxMet l y bc n rt fr lo G M As o M1) (hR : fr + 1 ≤ R.frames ∧ 8 + (n + 11) + lo ≤ R.locals)
    (hP : kP G M H) (hS : kS G s H locs) (hn : As.length = na) (hsz : ls.size = nL) {st0 : List Value} (hst : st0 = As.reverse ++ rest) (hw : (rest.map fun v => v.category).sum ≤ 8) (hdg : decode cc pc = .ok (.invokestatic idx, 3)) (hf : cells + fx_c o ≤ R.cells ∧ slots + fx_s o ≤ R.slots) :
    vx_Run p l e R s m args below meth c H locs cells slots (fx_c o) (fx_s o) (F0 m pc ls st0) rest (fx_Q G o M1 As.toArray) (fx_X G o M1) (fm_A G.2.2) := by
  obtain ⟨hx, hb, -, hml, hown, hts, hSx, -⟩ := C0
  exact vx_runS (As := As) (rest := rest) ⟨hx, hb, hml, hown, hts⟩ hM (va_cwS na hts (fm_goodS hL) rfl rfl rfl hL.2 hR) ⟨fx_blind G M _, fun U hU hW => ⟨rfl, C1.to hU hW hS, by rw [hU]; exact hP⟩⟩ rfl hn hsz hst (by show 2 * 0 + _ ≤ 8; omega) hdg hf
/-- it goes on to the caller -/
theorem x_out (C0 : fm_C p s m args meth c G w0 own cc nL ret) (C1 : fx_C l s c G) {E : String} {ce : Cell} {q9 : Nat} (hP : kP G M H) (hS : kS G s H locs) (hce : H[q9]? = some ce) (hv : ce.vm = .none) (hcl : s.vm.findClass E = some ce.cls) :
    vx_W p l e R s m args below meth c H locs (0 + 1) (0 + 6) (vx_MQ below (fx_Q G (.inr E) M) (fx_X G (.inr E) M) args s (fx_c (.inr E)) (fx_s (.inr E)) (fm_A G.2.2)) (F0 m pc ls rest) q9 :=
  vx_out (fun x h => (C1.2.2 x h).elim) C0.2.2.2.2.2.2.2 hce hv hcl (fun t ht _ => ⟨rfl, by rw [ht]; exact hP, hS.F ht⟩) hS.2.2 (Nat.le_refl _) (Nat.le_refl _)
/-- ends of a method that returns -/
theorem x_ret {v : Option Value} {g : JFrame} (k : W p l e R s m args below meth c H locs 0 0 (MQ below (fm_Q G 212 shF v M) args s 0 0 (fm_A G.2.2)) g) : W p l e R s m args below meth c H locs 0 0 (vx_MQ below (fx_Q G (.inl v) M) (fx_X G (.inl v) M) args s (fx_c (.inl v)) (fx_s (.inl v)) (fm_A G.2.2)) g := vx_ret k
end XROWS
theorem x_met {l : Launch} {y : MethodName} {bc : ByteArray} {n : Nat} {ret : Option FieldType} {fr lo : Nat} {own : String} {G : fm_G} {M M' : fm_M} {av : List Value} {o : fx_O} (hl : l.stackTraces = false) (hy : plainName y.cls = true) (hown : y.cls = own) (hlen : (lg_sl av).length ≤ n)
    (body : ∀ (p : Program) (e : Env) (s : State) (m : MethodId) (args : Array Value) (below : List Frame) (meth : Method) (c : Code), fm_C p s m args meth c G (.code y bc n ret) own bc n ret → fx_C l s c G → kP G M s.heap → ∀ ls : Array Slot, lv_has ls n (lv_args 0 av) → W p l e (fx_rm fr lo o) s m args below meth c s.heap [] 0 0 (vx_MQ below (fx_Q G o M') (fx_X G o M') args s (fx_c o) (fx_s o) (fm_A G.2.2)) (F0 m 0 ls [])) :
    kxMet l y bc n ret fr lo G M av o M' := by
  subst hown
  refine vx_ofW (cc := bc) (maxL := n) (ret := ret) hy rfl ?_
  intro p e s m args below meth c s₁ B hml hex hv
  obtain ⟨rfl, hSx, hP⟩ := hv
  have hts := atoms_spec (ws := fm_W y bc n ret) B.pre
  have hown : s.vm.findClass y.cls = some m.cls := findClass_of_methodNamed B.named
  rw [lg_entry_eq]
  exact body p e s m _ below meth c ⟨B.exec, B.bytes, B.returns, hml, hown, hts, hSx.1, B.notSynchronized⟩ ⟨hl, hSx, hex⟩ hP _ (lv_entry av hlen)
