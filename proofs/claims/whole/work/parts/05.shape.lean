/-! the 212 cells of the law's world -/
def shL0 : List fm_Sh := [.inr (.inr (9, [some (some 1), some (some 2), some (some 4), some (some 5), some (some 7), some (some 165), some (some 171), none, none, none])),
  .inr (.inr (5, [some (some 2), some (some 4), some (some 5), some (some 7), some (some 23), none, none])),
  .inr (.inr (8, [some (some 3), none])),
  .inl (.int, 6),
  .inr (.inl (.object "AllocationProfiler$Method", [some 24, some 39, some 54, some 69, some 84, some 99])),
  .inr (.inr (3, [some (some 6), none])),
  .inl (.int, 400),
  .inr (.inr (4, [some (some 8), some (some 12), some (some 16), some (some 17), some (some 18), some (some 19), some (some 20), some (some 21), some (some 22), none, none, none])),
  .inr (.inl (.array .int, [some 9, some 10, some 11])),
  .inl (.int, 78),
  .inl (.int, 78),
  .inl (.int, 78),
  .inr (.inl (.array .long, [some 13, some 14, some 15])),
  .inl (.long, 78),
  .inl (.long, 78),
  .inl (.long, 78),
  .inl (.long, 78),
  .inl (.int, 78),
  .inl (.float, 78),
  .inl (.int, 3),
  .inl (.int, 16),
  .inl (.int, 16),
  .inl (.int, 16),
  .inr (.inl (.object "AllocationProfiler$Strand", [some 114, some 131, some 148])),
  .inr (.inr (6, [some (some 25), some (some 31), some (some 37), some (some 38), none]))]
def shL1 : List fm_Sh := [.inr (.inr (1, [some (some 29), some (some 30), some (some 26), some (some 27), some (some 28), none, none])),
  .inl (.int, 2),
  .inl (.int, 2),
  .inl (.int, 2),
  .inl (.int, 24),
  .inl (.int, 24),
  .inr (.inr (1, [some (some 35), some (some 36), some (some 32), some (some 33), some (some 34), none, none])),
  .inl (.int, 2),
  .inl (.int, 2),
  .inl (.int, 2),
  .inl (.int, 28),
  .inl (.int, 28),
  .inl (.int, 24),
  .inl (.int, 25),
  .inr (.inr (6, [some (some 40), some (some 46), some (some 52), some (some 53), none])),
  .inr (.inr (1, [some (some 44), some (some 45), some (some 41), some (some 42), some (some 43), none, none])),
  .inl (.int, 2),
  .inl (.int, 2),
  .inl (.int, 2),
  .inl (.int, 24),
  .inl (.int, 24),
  .inr (.inr (1, [some (some 50), some (some 51), some (some 47), some (some 48), some (some 49), none, none])),
  .inl (.int, 2),
  .inl (.int, 2),
  .inl (.int, 2)]
def shL2 : List fm_Sh := [.inl (.int, 28),
  .inl (.int, 28),
  .inl (.int, 24),
  .inl (.int, 25),
  .inr (.inr (6, [some (some 55), some (some 61), some (some 67), some (some 68), none])),
  .inr (.inr (1, [some (some 59), some (some 60), some (some 56), some (some 57), some (some 58), none, none])),
  .inl (.int, 2),
  .inl (.int, 2),
  .inl (.int, 2),
  .inl (.int, 24),
  .inl (.int, 24),
  .inr (.inr (1, [some (some 65), some (some 66), some (some 62), some (some 63), some (some 64), none, none])),
  .inl (.int, 2),
  .inl (.int, 2),
  .inl (.int, 2),
  .inl (.int, 28),
  .inl (.int, 28),
  .inl (.int, 24),
  .inl (.int, 25),
  .inr (.inr (6, [some (some 70), some (some 76), some (some 82), some (some 83), none])),
  .inr (.inr (1, [some (some 74), some (some 75), some (some 71), some (some 72), some (some 73), none, none])),
  .inl (.int, 2),
  .inl (.int, 2),
  .inl (.int, 2),
  .inl (.int, 24)]
def shL3 : List fm_Sh := [.inl (.int, 24),
  .inr (.inr (1, [some (some 80), some (some 81), some (some 77), some (some 78), some (some 79), none, none])),
  .inl (.int, 2),
  .inl (.int, 2),
  .inl (.int, 2),
  .inl (.int, 28),
  .inl (.int, 28),
  .inl (.int, 24),
  .inl (.int, 25),
  .inr (.inr (6, [some (some 85), some (some 91), some (some 97), some (some 98), none])),
  .inr (.inr (1, [some (some 89), some (some 90), some (some 86), some (some 87), some (some 88), none, none])),
  .inl (.int, 2),
  .inl (.int, 2),
  .inl (.int, 2),
  .inl (.int, 24),
  .inl (.int, 24),
  .inr (.inr (1, [some (some 95), some (some 96), some (some 92), some (some 93), some (some 94), none, none])),
  .inl (.int, 2),
  .inl (.int, 2),
  .inl (.int, 2),
  .inl (.int, 28),
  .inl (.int, 28),
  .inl (.int, 24),
  .inl (.int, 25),
  .inr (.inr (6, [some (some 100), some (some 106), some (some 112), some (some 113), none]))]
def shL4 : List fm_Sh := [.inr (.inr (1, [some (some 104), some (some 105), some (some 101), some (some 102), some (some 103), none, none])),
  .inl (.int, 2),
  .inl (.int, 2),
  .inl (.int, 2),
  .inl (.int, 24),
  .inl (.int, 24),
  .inr (.inr (1, [some (some 110), some (some 111), some (some 107), some (some 108), some (some 109), none, none])),
  .inl (.int, 2),
  .inl (.int, 2),
  .inl (.int, 2),
  .inl (.int, 28),
  .inl (.int, 28),
  .inl (.int, 24),
  .inl (.int, 25),
  .inr (.inr (7, [some (some 115), none, none, none, none])),
  .inr (.inl (.object "AllocationProfiler$Frame", [some 116, some 119, some 122, some 125, some 128])),
  .inr (.inr (2, [some (some 117), some (some 118), none, none, none])),
  .inl (.int, 4),
  .inl (.int, 5),
  .inr (.inr (2, [some (some 120), some (some 121), none, none, none])),
  .inl (.int, 4),
  .inl (.int, 5),
  .inr (.inr (2, [some (some 123), some (some 124), none, none, none])),
  .inl (.int, 4),
  .inl (.int, 5)]
def shL5 : List fm_Sh := [.inr (.inr (2, [some (some 126), some (some 127), none, none, none])),
  .inl (.int, 4),
  .inl (.int, 5),
  .inr (.inr (2, [some (some 129), some (some 130), none, none, none])),
  .inl (.int, 4),
  .inl (.int, 5),
  .inr (.inr (7, [some (some 132), none, none, none, none])),
  .inr (.inl (.object "AllocationProfiler$Frame", [some 133, some 136, some 139, some 142, some 145])),
  .inr (.inr (2, [some (some 134), some (some 135), none, none, none])),
  .inl (.int, 4),
  .inl (.int, 5),
  .inr (.inr (2, [some (some 137), some (some 138), none, none, none])),
  .inl (.int, 4),
  .inl (.int, 5),
  .inr (.inr (2, [some (some 140), some (some 141), none, none, none])),
  .inl (.int, 4),
  .inl (.int, 5),
  .inr (.inr (2, [some (some 143), some (some 144), none, none, none])),
  .inl (.int, 4),
  .inl (.int, 5),
  .inr (.inr (2, [some (some 146), some (some 147), none, none, none])),
  .inl (.int, 4),
  .inl (.int, 5),
  .inr (.inr (7, [some (some 149), none, none, none, none])),
  .inr (.inl (.object "AllocationProfiler$Frame", [some 150, some 153, some 156, some 159, some 162]))]
def shL6 : List fm_Sh := [.inr (.inr (2, [some (some 151), some (some 152), none, none, none])),
  .inl (.int, 4),
  .inl (.int, 5),
  .inr (.inr (2, [some (some 154), some (some 155), none, none, none])),
  .inl (.int, 4),
  .inl (.int, 5),
  .inr (.inr (2, [some (some 157), some (some 158), none, none, none])),
  .inl (.int, 4),
  .inl (.int, 5),
  .inr (.inr (2, [some (some 160), some (some 161), none, none, none])),
  .inl (.int, 4),
  .inl (.int, 5),
  .inr (.inr (2, [some (some 163), some (some 164), none, none, none])),
  .inl (.int, 4),
  .inl (.int, 5),
  .inr (.inr (1, [some (some 169), some (some 170), some (some 166), some (some 167), some (some 168), none, none])),
  .inl (.int, 2),
  .inl (.int, 2),
  .inl (.int, 2),
  .inl (.int, 24),
  .inl (.int, 24),
  .inr (.inr (0, [some (some 172), some (some 173), none])),
  .inl (.int, 24),
  .inl (.int, 168),
  .inr (.inr (10, [none, none, some (some 175), some (some 176), none, some (some 177), some (some 178), none, some (some 179), none, none, none, some (some 180), some (some 181), some (some 182), some (some 183), some (some 184), some (some 185), some (some 186), some (some 187), some (some 188), some (some 189), some (some 190), none, some (some 191), some (some 192), some (some 193), some (some 194), some (some 195), some (some 196), some (some 197), some (some 198), some (some 199), none, none, none, some (some 200), some (some 201), some (some 202), some (some 203), some (some 204), some (some 205), none, some (some 206), none, some (some 207), some (some 208), some (some 209)]))]
def shL7 : List fm_Sh := [.inl (.int, 6),
  .inl (.int, 6),
  .inl (.int, 24),
  .inl (.int, 24),
  .inl (.int, 6),
  .inl (.boolean, 6),
  .inl (.int, 6),
  .inl (.int, 144),
  .inl (.int, 144),
  .inl (.int, 6),
  .inl (.int, 36),
  .inl (.int, 6),
  .inl (.int, 168),
  .inl (.int, 168),
  .inl (.int, 36),
  .inl (.int, 144),
  .inl (.boolean, 250),
  .inl (.int, 3),
  .inl (.int, 3),
  .inl (.int, 3),
  .inl (.int, 15),
  .inl (.int, 15),
  .inl (.int, 15),
  .inl (.int, 60),
  .inl (.int, 90)]
def shL8 : List fm_Sh := [.inl (.int, 401),
  .inl (.long, 252),
  .inl (.long, 252),
  .inl (.int, 84),
  .inl (.float, 84),
  .inl (.long, 84),
  .inl (.int, 3),
  .inl (.int, 16),
  .inl (.int, 16),
  .inl (.int, 16),
  .inl (.long, 1),
  .inl (.double, 1)]
def shL : List fm_Sh := shL0 ++ (shL1 ++ (shL2 ++ (shL3 ++ (shL4 ++ (shL5 ++ (shL6 ++ (shL7 ++ (shL8))))))))
def shF (k : Nat) : fm_Sh := shL.getD k (.inl (.int, 0))
theorem sh_len : shL.length = 212 := by decide +kernel
theorem sh_lt {q c : Nat} {fl : List (Option (Option Nat))} (h : shF q = .inr (.inr (c, fl))) : q < 212 := by
  rcases Nat.lt_or_ge q 212 with h1 | h1
  · exact h1
  · rw [shF, List.getD_eq_getElem?_getD, List.getElem?_eq_none (by rw [sh_len]; exact h1)] at h
    cases h
theorem sh_ltR {q : Nat} {ty : FieldType} {rs : List (Option Nat)} (h : shF q = .inr (.inl (ty, rs))) : q < 212 := by
  rcases Nat.lt_or_ge q 212 with h1 | h1
  · exact h1
  · rw [shF, List.getD_eq_getElem?_getD, List.getElem?_eq_none (by rw [sh_len]; exact h1)] at h
    cases h
theorem sh_ltA {q n : Nat} {ty : FieldType} {i : Int} (h : shF q = .inl (ty, n)) (h0 : 0 ≤ i) (hi : i < n) : q < 212 := by
  rcases Nat.lt_or_ge q 212 with h1 | h1
  · exact h1
  · rw [shF, List.getD_eq_getElem?_getD, List.getElem?_eq_none (by rw [sh_len]; exact h1)] at h
    cases h
    omega
/-- the class of a cell; its reference fields -/
def cl (q : Nat) : Option Nat := match shF q with
  | .inr (.inr (c, _)) => some c
  | _ => none
def gr (q ci j : Nat) : Option Nat := match shF q with
  | .inr (.inr (c, fl)) => if c = ci then (match fl[j]? with
    | some (some r) => r
    | _ => none) else none
  | _ => none
def gi (q ci j : Nat) (M : fm_M) : Option Int32 := if cl q = some ci then some (M.1 q j) else none
def pi (q ci j : Nat) (v : Int32) (M : fm_M) : Option fm_M := if cl q = some ci then some (fm_sI M q j v) else none
/-- the length of a cell that is an array of numbers of a kind -/
def an (q : Nat) : Option (FieldType × Nat) := match shF q with
  | .inl x => some x
  | _ => none
def inr (i : Int32) (n : Nat) : Bool := decide (0 ≤ i.toInt ∧ i.toInt < n)
def ai (q : Nat) (i : Int32) (M : fm_M) : Option Int32 := match an q with
  | some (.int, n) => if inr i n then some (M.1 q i.toInt.toNat) else none
  | _ => none
def si (q : Nat) (i v : Int32) (M : fm_M) : Option fm_M := match an q with
  | some (.int, n) => if inr i n then some (fm_sI M q i.toInt.toNat v) else none
  | _ => none
def az (q : Nat) (i : Int32) (M : fm_M) : Option Int32 := match an q with
  | some (.boolean, n) => if inr i n then some (M.1 q i.toInt.toNat) else none
  | _ => none
def sz (q : Nat) (i v : Int32) (M : fm_M) : Option fm_M := match an q with
  | some (.boolean, n) => if inr i n then some (fm_sI M q i.toInt.toNat v) else none
  | _ => none
def aj (q : Nat) (i : Int32) (M : fm_M) : Option Int64 := match an q with
  | some (.long, n) => if inr i n then some (M.2.1 q i.toInt.toNat) else none
  | _ => none
def sj (q : Nat) (i : Int32) (v : Int64) (M : fm_M) : Option fm_M := match an q with
  | some (.long, n) => if inr i n then some (fm_sJ M q i.toInt.toNat v) else none
  | _ => none
def af (q : Nat) (i : Int32) (M : fm_M) : Option UInt32 := match an q with
  | some (.float, n) => if inr i n then some (M.2.2.1 q i.toInt.toNat) else none
  | _ => none
def sf (q : Nat) (i : Int32) (v : UInt32) (M : fm_M) : Option fm_M := match an q with
  | some (.float, n) => if inr i n then some (fm_sF M q i.toInt.toNat v) else none
  | _ => none
def ad (q : Nat) (i : Int32) (M : fm_M) : Option UInt64 := match an q with
  | some (.double, n) => if inr i n then some (M.2.2.2 q i.toInt.toNat) else none
  | _ => none
def sd (q : Nat) (i : Int32) (v : UInt64) (M : fm_M) : Option fm_M := match an q with
  | some (.double, n) => if inr i n then some (fm_sD M q i.toInt.toNat v) else none
  | _ => none
def ln (q : Nat) : Option Int32 := match an q with
  | some (ty, n) => if q < 212 ∧ ty = .int then some (Int32.ofNat n) else none
  | _ => none
def ar (q : Nat) (i : Int32) : Option Nat := match shF q with
  | .inr (.inl (_, rs)) => if inr i rs.length then (rs[i.toInt.toNat]?).getD none else none
  | _ => none
def tk (i : Int32) : Option Int32 := if inr i 17 then some (fm_tk.getD i.toInt.toNat 0) else none
def pt (i : Int32) : Option Int32 := if inr i 17 then some (fm_pt.getD i.toInt.toNat 0) else none
theorem ob {α β : Type} {o : Option α} {f : α → Option β} {b : β} (h : o.bind f = some b) : ∃ a, o = some a ∧ f a = some b := Option.bind_eq_some_iff.mp h
theorem in_of {i : Int32} {n : Nat} (h : inr i n = true) : 0 ≤ i.toInt ∧ i.toInt < n := of_decide_eq_true h
theorem cl_of {q c : Nat} (h : cl q = some c) : ∃ fl, shF q = .inr (.inr (c, fl)) ∧ q < 212 := by
  unfold cl at h
  split at h
  · rename_i c' fl hs
    cases h
    exact ⟨fl, hs, sh_lt hs⟩
  · cases h
theorem gi_of {q c j : Nat} {M : fm_M} {x : Int32} (h : gi q c j M = some x) : cl q = some c ∧ x = M.1 q j := by
  unfold gi at h
  split at h
  · rename_i hc
    cases h
    exact ⟨hc, rfl⟩
  · cases h
theorem pi_of {q c j : Nat} {v : Int32} {M M' : fm_M} (h : pi q c j v M = some M') : cl q = some c ∧ M' = fm_sI M q j v := by
  unfold pi at h
  split at h
  · rename_i hc
    cases h
    exact ⟨hc, rfl⟩
  · cases h
theorem gr_of {q c j r : Nat} (h : gr q c j = some r) : ∃ fl, shF q = .inr (.inr (c, fl)) ∧ q < 212 ∧ fl[j]? = some (some (some r)) := by
  unfold gr at h
  split at h
  · rename_i c' fl hs
    split at h
    · rename_i hc
      subst hc
      split at h
      · rename_i r' hr
        subst h
        exact ⟨fl, hs, sh_lt hs, hr⟩
      · cases h
    · cases h
  · cases h
theorem an_of {q : Nat} {x : FieldType × Nat} (h : an q = some x) : shF q = .inl x := by
  unfold an at h
  split at h
  · rename_i y hs
    cases h
    exact hs
  · cases h
/-- field j of class c is an int (or a boolean) in every cell -/
def ikb (x : fm_Sh) (c j : Nat) : Bool := match x with
  | .inr (.inr (c', fl)) => decide (c' ≠ c) || decide (fl[j]? = some none)
  | _ => true
def ik (c j : Nat) : Prop := ∀ q, q < 212 → ikb (shF q) c j = true
theorem ik_of {c j q : Nat} {fl : List (Option (Option Nat))} (h : ik c j) (hs : shF q = .inr (.inr (c, fl))) : fl[j]? = some none := by
  have h1 := h q (sh_lt hs)
  rw [hs] at h1
  simpa [ikb] using h1
theorem ik_all : ∀ q, q < 212 → ∀ x ∈ [((0 : Nat), (2 : Nat)), ((1 : Nat), (5 : Nat)), ((1 : Nat), (6 : Nat)), ((2 : Nat), (2 : Nat)), ((2 : Nat), (3 : Nat)), ((2 : Nat), (4 : Nat)), ((3 : Nat), (1 : Nat)), ((4 : Nat), (9 : Nat)), ((4 : Nat), (10 : Nat)), ((4 : Nat), (11 : Nat)), ((5 : Nat), (5 : Nat)), ((5 : Nat), (6 : Nat)), ((6 : Nat), (4 : Nat)), ((7 : Nat), (1 : Nat)), ((7 : Nat), (2 : Nat)), ((7 : Nat), (3 : Nat)), ((7 : Nat), (4 : Nat)), ((8 : Nat), (1 : Nat)), ((9 : Nat), (7 : Nat)), ((9 : Nat), (8 : Nat)), ((9 : Nat), (9 : Nat)), ((10 : Nat), (0 : Nat)), ((10 : Nat), (1 : Nat)), ((10 : Nat), (4 : Nat)), ((10 : Nat), (7 : Nat)), ((10 : Nat), (9 : Nat)), ((10 : Nat), (10 : Nat)), ((10 : Nat), (11 : Nat)), ((10 : Nat), (23 : Nat)), ((10 : Nat), (33 : Nat)), ((10 : Nat), (34 : Nat)), ((10 : Nat), (35 : Nat)), ((10 : Nat), (42 : Nat)), ((10 : Nat), (44 : Nat))], ikb (shF q) x.1 x.2 = true := by decide +kernel
theorem ik_0_2 : ik 0 2 := fun q hq => ik_all q hq (0, 2) (by decide)
theorem ik_1_5 : ik 1 5 := fun q hq => ik_all q hq (1, 5) (by decide)
theorem ik_1_6 : ik 1 6 := fun q hq => ik_all q hq (1, 6) (by decide)
theorem ik_2_2 : ik 2 2 := fun q hq => ik_all q hq (2, 2) (by decide)
theorem ik_2_3 : ik 2 3 := fun q hq => ik_all q hq (2, 3) (by decide)
theorem ik_2_4 : ik 2 4 := fun q hq => ik_all q hq (2, 4) (by decide)
theorem ik_3_1 : ik 3 1 := fun q hq => ik_all q hq (3, 1) (by decide)
theorem ik_4_9 : ik 4 9 := fun q hq => ik_all q hq (4, 9) (by decide)
theorem ik_4_10 : ik 4 10 := fun q hq => ik_all q hq (4, 10) (by decide)
theorem ik_4_11 : ik 4 11 := fun q hq => ik_all q hq (4, 11) (by decide)
theorem ik_5_5 : ik 5 5 := fun q hq => ik_all q hq (5, 5) (by decide)
theorem ik_5_6 : ik 5 6 := fun q hq => ik_all q hq (5, 6) (by decide)
theorem ik_6_4 : ik 6 4 := fun q hq => ik_all q hq (6, 4) (by decide)
theorem ik_7_1 : ik 7 1 := fun q hq => ik_all q hq (7, 1) (by decide)
theorem ik_7_2 : ik 7 2 := fun q hq => ik_all q hq (7, 2) (by decide)
theorem ik_7_3 : ik 7 3 := fun q hq => ik_all q hq (7, 3) (by decide)
theorem ik_7_4 : ik 7 4 := fun q hq => ik_all q hq (7, 4) (by decide)
theorem ik_8_1 : ik 8 1 := fun q hq => ik_all q hq (8, 1) (by decide)
theorem ik_9_7 : ik 9 7 := fun q hq => ik_all q hq (9, 7) (by decide)
theorem ik_9_8 : ik 9 8 := fun q hq => ik_all q hq (9, 8) (by decide)
theorem ik_9_9 : ik 9 9 := fun q hq => ik_all q hq (9, 9) (by decide)
theorem ik_10_0 : ik 10 0 := fun q hq => ik_all q hq (10, 0) (by decide)
theorem ik_10_1 : ik 10 1 := fun q hq => ik_all q hq (10, 1) (by decide)
theorem ik_10_4 : ik 10 4 := fun q hq => ik_all q hq (10, 4) (by decide)
theorem ik_10_7 : ik 10 7 := fun q hq => ik_all q hq (10, 7) (by decide)
theorem ik_10_9 : ik 10 9 := fun q hq => ik_all q hq (10, 9) (by decide)
theorem ik_10_10 : ik 10 10 := fun q hq => ik_all q hq (10, 10) (by decide)
theorem ik_10_11 : ik 10 11 := fun q hq => ik_all q hq (10, 11) (by decide)
theorem ik_10_23 : ik 10 23 := fun q hq => ik_all q hq (10, 23) (by decide)
theorem ik_10_33 : ik 10 33 := fun q hq => ik_all q hq (10, 33) (by decide)
theorem ik_10_34 : ik 10 34 := fun q hq => ik_all q hq (10, 34) (by decide)
theorem ik_10_35 : ik 10 35 := fun q hq => ik_all q hq (10, 35) (by decide)
theorem ik_10_42 : ik 10 42 := fun q hq => ik_all q hq (10, 42) (by decide)
theorem ik_10_44 : ik 10 44 := fun q hq => ik_all q hq (10, 44) (by decide)
