/-! the law's walk: what is made first, then call by call -/
def cn_eq (o : Option cn_T) (S : List fm_Sh) (L : List (Nat × Nat × Int32)) : Bool := match o with
  | some T => decide (T.1 = S) && decide (T.2 = L)
  | none => false
theorem cn_eq_of {o : Option cn_T} {S : List fm_Sh} {L : List (Nat × Nat × Int32)} (h : cn_eq o S L = true) : o = some (S, L) := by
  match o, h with
  | some (S', L'), h =>
    simp only [cn_eq, Bool.and_eq_true, decide_eq_true_eq] at h
    rw [h.1, h.2]
set_option maxRecDepth 100000 in
theorem cm_AP : m_AP_init 0 (cn_ad ([], []) (.inr (.inr (9, [some none, some none, some none, some none, some none, some none, some none, none, none, none])))) = some (shL.take 174, [(0, 8, -1), (148, 1, 2), (131, 1, 1), (7, 11, 50)]) := cn_eq_of (by decide +kernel)
set_option maxRecDepth 100000 in
theorem cm_Mo : m_Mo_init 174 (cn_ad (shL.take 174, [(0, 8, -1), (148, 1, 2), (131, 1, 1), (7, 11, 50)]) (.inr (.inr (10, [none, none, some none, some none, none, some none, some none, none, some none, none, none, none, some none, some none, some none, some none, some none, some none, some none, some none, some none, some none, some none, none, some none, some none, some none, some none, some none, some none, some none, some none, some none, none, none, none, some none, some none, some none, some none, some none, some none, none, some none, none, some none, some none, some none])))) = some (shL.take 210, [(174, 10, -1), (0, 8, -1), (148, 1, 2), (131, 1, 1), (7, 11, 50)]) := cn_eq_of (by decide +kernel)
/-- the memory behind the constructors -/
def m0L : List (Nat × Nat × Int32) := [(174, 10, -1), (0, 8, -1), (148, 1, 2), (131, 1, 1), (7, 11, 50)]
def m0 : fm_M := (cn_lk m0L, fun _ _ => 0, fun _ _ => 0, fun _ _ => 0)
set_option maxRecDepth 100000 in
theorem cm_end : cn_ad (cn_ad (shL.take 210, m0L) (.inl (.long, 1))) (.inl (.double, 1)) = (shL, m0L) := Option.some.inj (cn_eq_of (o := some (cn_ad (cn_ad (shL.take 210, m0L) (.inl (.long, 1))) (.inl (.double, 1)))) (by decide +kernel))
theorem cm_kP {G : fm_G} {H : Heap} (h : cn_P G (shL, m0L) H) : kP G m0 H := by
  have h1 : fm_P G shL.length shF m0 H := h
  rw [sh_len] at h1
  exact h1
set_option maxRecDepth 100000 in
theorem cm_len : (shL.take 174).length = 174 ∧ (shL.take 210).length = 210 := by decide +kernel
