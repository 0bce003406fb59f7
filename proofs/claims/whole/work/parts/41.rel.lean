/-! how the class's cells (in Mc) and the reference's (in Mm) belong together -/
def tkN (o : Nat) : Nat := [0, 0, 1, 2, 2, 2, 1, 1, 0, 1, 1, 0, 1, 1, 1, 1, 0].getD o 0
def ptN (o : Nat) : Nat := [1, 1, 0, 1, 1, 1, 2, 0, 0, 0, 0, 1, 1, 1, 0, 0, 0].getD o 0
def oN (x : Int32) : Nat := x.toInt.toNat
def pos32 (r : UInt32) : Prop := (∃ c q, FP.Core.val32 r = .fin false c q) ∨ FP.Core.val32 r = .inf false
def RA (n : Nat) (Mc Mm : fm_M) : Prop := n ≤ 6 ∧ Mc.1 0 7 = nI n ∧ Mm.1 174 9 = nI n ∧ Mc.1 0 8 = Mm.1 174 10 ∧ Mc.1 0 9 = Mm.1 174 11 ∧ (Mc.1 0 9 = 0 ∨ Mc.1 0 9 = 1)
def RB (k : Nat) (Mc Mm : fm_M) : Prop := k ≤ 6 ∧ Mc.1 2 1 = nI k ∧ Mm.1 174 1 = nI k ∧ ∀ j, j < k → ∃ v, v ≤ 12 + 60 * (j + 1) ∧ Mc.1 3 j = nI v ∧ Mm.1 175 j = nI v ∧ Mm.1 176 j = nI ((v + 7) / 8 * 8)
/-- the class's code at cell q is the reference's -/
def CR (Mc Mm : fm_M) (q : Nat) (ml mr : Int32) (co ca cr bo br l r : Nat) : Prop := Mc.1 q 5 = nI l ∧ ml = nI l ∧ Mc.1 q 6 = nI r ∧ mr = nI r ∧ (∀ i, i < l → Mc.1 (q + 4) i = Mm.1 co (bo + i) ∧ Mc.1 (q + 5) i = Mm.1 ca (bo + i)) ∧ ∀ i, i < r → Mc.1 (q + 1) i = Mm.1 cr (br + 3 * i) ∧ Mc.1 (q + 2) i = Mm.1 cr (br + 3 * i + 1) ∧ Mc.1 (q + 3) i = Mm.1 cr (br + 3 * i + 2)
def RC (Mc Mm : fm_M) : Prop := ∃ l r, l ≤ 24 ∧ r ≤ 2 ∧ CR Mc Mm 165 (Mm.1 174 4) (Mm.1 174 7) 177 178 179 0 0 l r ∧ ∀ i, i < l → ∃ o, o ≤ 15 ∧ Mc.1 169 i = nI o
/-- an instruction that may stand in a method -/
def opok (o a : Int32) (l k n s : Nat) : Prop := ∃ op, op ≤ 16 ∧ o = nI op ∧ ((op = 1 ∨ op = 2) → ∃ x, x < 4 ∧ a = nI x) ∧ ((8 ≤ op ∧ op ≤ 10) → ∃ x, x < l ∧ a = nI x) ∧ (op = 11 → ∃ x, x < k ∧ a = nI x) ∧ (op = 12 → (a = 1 ∨ a = 2 ∨ a = 4 ∨ a = 8)) ∧ (op = 13 → ∃ x, x ≤ n ∧ a = nI x) ∧ (op = 16 → ∃ x, x < s ∧ a = nI x)
/-- where a method goes on behind p -/
def nx (O : Nat → Int32) (l p : Nat) : Nat := if (oN (O p) = 11 ∨ oN (O p) = 12) ∧ p + 1 < l ∧ O (p + 1) = 16 then p + 2 else p + 1
/-- P holds of the places with the depths at which they are reached -/
def flow (O A B E H : Nat → Int32) (l r : Nat) (P : Nat → Nat → Prop) (p d : Nat) : Prop :=
  p < l ∧ oN (O p) ≤ 15 ∧ tkN (oN (O p)) ≤ d ∧ d ≤ 5 ∧ (¬ (oN (O p) = 8 ∨ oN (O p) = 14 ∨ oN (O p) = 15) → P (nx O l p) (d - tkN (oN (O p)) + ptN (oN (O p)))) ∧ ((8 ≤ oN (O p) ∧ oN (O p) ≤ 10) → P (oN (A p)) (d - tkN (oN (O p)) + ptN (oN (O p)))) ∧ ∀ i, i < r → oN (B i) ≤ p → p < oN (E i) → P (oN (H i)) 1
def WF (O A B E H : Nat → Int32) (l r k n s : Nat) (P : Nat → Nat → Prop) : Prop :=
  0 < l ∧ (∀ p, p < l → opok (O p) (A p) l k n s) ∧ (∀ i, i < r → ∃ b e h, B i = nI b ∧ E i = nI e ∧ H i = nI h ∧ b < e ∧ e ≤ l ∧ h < l) ∧ (oN (O (l - 1)) = 8 ∨ oN (O (l - 1)) = 14 ∨ oN (O (l - 1)) = 15) ∧ P 0 0 ∧ ∀ p d, P p d → flow O A B E H l r P p d
def WQ (M : fm_M) (q l r k n s : Nat) (P : Nat → Nat → Prop) : Prop := WF (M.1 (q + 4)) (M.1 (q + 5)) (M.1 (q + 1)) (M.1 (q + 2)) (M.1 (q + 3)) l r k n s P
def RM (m k s : Nat) (Mc Mm : fm_M) (P : Nat → Nat → Prop) : Prop := ∃ l r wl, l ≤ 24 ∧ r ≤ 2 ∧ wl ≤ 28 ∧ CR Mc Mm (25 + 15 * m) (Mm.1 181 m) (Mm.1 184 m) 182 183 185 (24 * m) (6 * m) l r ∧ CR Mc Mm (31 + 15 * m) (Mm.1 186 m) (Mm.1 184 m) 187 188 189 (28 * m) (6 * m) wl r ∧ (∃ P0, WQ Mc (25 + 15 * m) l r k m 0 P0) ∧ WQ Mc (31 + 15 * m) wl r k m s P ∧ ∀ i, i < l → Mc.1 (37 + 15 * m) i = Mm.1 190 (24 * m + i) ∧ (Mc.1 (37 + 15 * m) i = -1 ∨ 0 ≤ (Mc.1 (37 + 15 * m) i).toInt)
def RD (n k s : Nat) (Mc Mm : fm_M) (Ps : Nat → Nat → Nat → Prop) : Prop := ∀ m, m < n → RM m k s Mc Mm (Ps m)
def RX (Mc Mm : fm_M) : Prop := ∀ m, m < 6 → Mc.1 (24 + 15 * m) 4 = Mm.1 180 m ∧ (Mc.1 (24 + 15 * m) 4 = 0 ∨ Mc.1 (24 + 15 * m) 4 = 1)
/-- the counters -/
def RE1 (s h : Nat) (Mc Mm : fm_M) : Prop := (∀ t, t < 3 → ∀ j, j < 78 → ∃ o, o ≤ h ∧ Mc.1 (9 + t) j = nI o ∧ Mm.2.1 201 (3 * j + t) = lN o) ∧ (∀ t, t < 3 → ∀ j, j < 78 → ∃ b, b ≤ 100000 * h ∧ Mc.2.1 (13 + t) j = lN b ∧ Mm.2.1 202 (3 * j + t) = lN b) ∧ ∀ k, 3 * s ≤ k → k < 252 → Mm.2.1 202 k = 0
def RE2 (h : Nat) (Mc Mm : fm_M) : Prop := (∀ j, j < 78 → ∃ f, f ≤ 100000 * h ∧ Mc.2.1 16 j = lN f ∧ Mm.2.1 202 (3 * j) + Mm.2.1 202 (3 * j + 1) + Mm.2.1 202 (3 * j + 2) - Mm.2.1 205 j = lN f) ∧ (∀ j, j < 78 → ∃ x, x ≤ 2001 * h ∧ Mc.1 17 j = nI x ∧ Mm.1 203 j = nI x) ∧ ∀ j, j < 78 → Mc.2.2.1 18 j = Mm.2.2.1 204 j ∧ pos32 (Mc.2.2.1 18 j)
def RE3 (Mc Mm : fm_M) : Prop := ∃ e, e ≤ 16 ∧ Mc.1 7 10 = nI e ∧ Mm.1 174 44 = nI e ∧ (∀ i, i < e → Mc.1 20 i = Mm.1 207 i ∧ Mc.1 21 i = Mm.1 208 i ∧ Mc.1 22 i = Mm.1 209 i) ∧ ∀ i, e ≤ i → i < 16 → Mc.1 22 i = 0
def RE4 (Mc Mm : fm_M) : Prop := Mc.1 0 9 = 1 → ∃ I, 50 ≤ I ∧ I ≤ 100000 ∧ Mc.1 7 11 = nI I ∧ Mm.1 174 42 = nI I ∧ ∀ t, t < 3 → ∃ c, 1 ≤ c ∧ c ≤ I ∧ Mc.1 19 t = nI c ∧ Mm.1 206 t = nI c
def RE (s h : Nat) (Mc Mm : fm_M) : Prop := s ≤ 78 ∧ Mc.1 7 9 = nI s ∧ Mm.1 174 23 = nI s ∧ (Mc.1 0 9 = 0 → s = 0) ∧ RE1 s h Mc Mm ∧ RE2 h Mc Mm ∧ RE3 Mc Mm ∧ RE4 Mc Mm
def RF (h : Nat) (Mc Mm : fm_M) : Prop := h ≤ 400 ∧ Mc.1 5 1 = nI h ∧ Mm.1 174 35 = nI h ∧ ∀ i, i < h → Mc.1 6 i = Mm.1 200 (i + 1)
def RG (Mc Mm : fm_M) : Prop := (∃ u, u < 3 ∧ Mc.1 1 5 = nI u ∧ Mm.1 174 33 = nI u) ∧ ∃ f, f < 16 ∧ Mc.1 1 6 = nI f ∧ (Mm.1 174 34).toInt % 16 = (f : Int)
/-- one active method: the reference stands at pm -/
def FR (Mc Mm : fm_M) (t f p pm d u : Nat) : Prop := Mc.1 (116 + 17 * t + 3 * f) 2 = nI u ∧ Mc.1 (116 + 17 * t + 3 * f) 3 = nI p ∧ Mc.1 (116 + 17 * t + 3 * f) 4 = nI d ∧ Mm.1 195 (5 * t + f) = nI u ∧ Mm.1 196 (5 * t + f) = nI pm ∧ Mm.1 197 (5 * t + f) = nI d ∧ (∀ j, j < 4 → Mc.1 (116 + 17 * t + 3 * f + 1) j = Mm.1 198 (4 * (5 * t + f) + j)) ∧ (∀ j, j < d → Mc.1 (116 + 17 * t + 3 * f + 2) j = Mm.1 199 (6 * (5 * t + f) + j)) ∧ d ≤ 5
/-- it is reached with that depth; at a call what it gave is gone -/
def FI (Mc : fm_M) (n : Nat) (Ps : Nat → Nat → Nat → Prop) (top : Prop) (p d u : Nat) : Prop := u < n ∧ ((top ∧ Ps u p d) ∨ (¬ top ∧ Ps u p (d + 1) ∧ Mc.1 (35 + 15 * u) p = 13))
def FS (Mc Mm : fm_M) (n : Nat) (Ps : Nat → Nat → Nat → Prop) (t a : Nat) (sh : Bool) : Prop := ∀ f, f < a → ∃ p d u, FR Mc Mm t f p (if f + 1 = a ∧ sh = false then p else p + 1) d u ∧ FI Mc n Ps (f + 1 = a) p d u
def SR (Mc Mm : fm_M) (n : Nat) (Ps : Nat → Nat → Nat → Prop) (t : Nat) : Prop := Mc.1 (114 + 17 * t) 1 = nI t ∧ ∃ a, a ≤ 5 ∧ Mc.1 (114 + 17 * t) 2 = nI a ∧ Mm.1 192 t = nI a ∧ (a = 0 → Mc.1 (114 + 17 * t) 3 = Mm.1 193 t ∧ Mc.1 (114 + 17 * t) 4 = Mm.1 194 t ∧ (Mm.1 193 t = 0 ∨ Mm.1 193 t = 2 ∨ Mm.1 193 t = 3)) ∧ (0 < a → Mm.1 193 t = 1 ∧ Mc.1 0 9 = 1) ∧ FS Mc Mm n Ps t a false
def RS (Mc Mm : fm_M) (n : Nat) (Ps : Nat → Nat → Nat → Prop) : Prop := ∀ t, t < 3 → SR Mc Mm n Ps t
def Rx (n k s h : Nat) (Ps : Nat → Nat → Nat → Prop) (Mc Mm : fm_M) : Prop := RA n Mc Mm ∧ RB k Mc Mm ∧ RC Mc Mm ∧ RD n k s Mc Mm Ps ∧ RX Mc Mm ∧ RE s h Mc Mm ∧ RF h Mc Mm ∧ RG Mc Mm ∧ RS Mc Mm n Ps
def Rel (Mc Mm : fm_M) : Prop := ∃ n k s h Ps, Rx n k s h Ps Mc Mm
/-! what each part looks at -/
section CONGR
variable {Mc Mm Mc' Mm' : fm_M}
/-- the reference's own numbers but thrown -/
def e174 (Mm Mm' : fm_M) : Prop := ∀ j, j ≠ 0 → Mm'.1 174 j = Mm.1 174 j
theorem RA_c {n : Nat} (h : RA n Mc Mm) (h1 : Mc'.1 0 = Mc.1 0) (h2 : ∀ j, 9 ≤ j → j ≤ 11 → Mm'.1 174 j = Mm.1 174 j) : RA n Mc' Mm' := by
  unfold RA at h ⊢
  rw [h1, h2 9 (by decide) (by decide), h2 10 (by decide) (by decide), h2 11 (by decide) (by decide)]
  exact h
theorem RB_c {k : Nat} (h : RB k Mc Mm) (h1 : Mc'.1 2 = Mc.1 2) (h2 : Mc'.1 3 = Mc.1 3) (h3 : Mm'.1 174 1 = Mm.1 174 1) (h4 : Mm'.1 175 = Mm.1 175) (h5 : Mm'.1 176 = Mm.1 176) : RB k Mc' Mm' := by
  unfold RB at h ⊢
  rw [h1, h2, h3, h4, h5]
  exact h
theorem CR_c {q co ca cr bo br l r : Nat} {ml mr : Int32} (h : CR Mc Mm q ml mr co ca cr bo br l r) (h0 : Mc'.1 q = Mc.1 q) (h1 : Mc'.1 (q + 1) = Mc.1 (q + 1)) (h2 : Mc'.1 (q + 2) = Mc.1 (q + 2)) (h3 : Mc'.1 (q + 3) = Mc.1 (q + 3)) (h4 : Mc'.1 (q + 4) = Mc.1 (q + 4)) (h5 : Mc'.1 (q + 5) = Mc.1 (q + 5)) (g1 : Mm'.1 co = Mm.1 co) (g2 : Mm'.1 ca = Mm.1 ca) (g3 : Mm'.1 cr = Mm.1 cr) : CR Mc' Mm' q ml mr co ca cr bo br l r := by
  unfold CR at h ⊢
  rw [h0, h1, h2, h3, h4, h5, g1, g2, g3]
  exact h
theorem RC_c (h : RC Mc Mm) (h0 : ∀ k, 165 ≤ k → k ≤ 170 → Mc'.1 k = Mc.1 k) (h4 : Mm'.1 174 4 = Mm.1 174 4) (h7 : Mm'.1 174 7 = Mm.1 174 7) (h2 : ∀ k, 177 ≤ k → k ≤ 179 → Mm'.1 k = Mm.1 k) : RC Mc' Mm' := by
  obtain ⟨l, r, a, b, c, d⟩ := h
  refine ⟨l, r, a, b, ?_, ?_⟩
  · rw [h4, h7]
    exact CR_c c (h0 _ (by decide) (by decide)) (h0 _ (by decide) (by decide)) (h0 _ (by decide) (by decide)) (h0 _ (by decide) (by decide)) (h0 _ (by decide) (by decide)) (h0 _ (by decide) (by decide)) (h2 _ (by decide) (by decide)) (h2 _ (by decide) (by decide)) (h2 _ (by decide) (by decide))
  · rw [h0 169 (by decide) (by decide)]
    exact d
theorem RM_c {m k s : Nat} {P : Nat → Nat → Prop} (h : RM m k s Mc Mm P) (h0 : ∀ q, 25 + 15 * m ≤ q → q ≤ 37 + 15 * m → Mc'.1 q = Mc.1 q) (h2 : ∀ q, 181 ≤ q → q ≤ 190 → Mm'.1 q = Mm.1 q) : RM m k s Mc' Mm' P := by
  obtain ⟨l, r, wl, a, b, c, d, e, ⟨P0, f⟩, g, i⟩ := h
  refine ⟨l, r, wl, a, b, c, ?_, ?_, ⟨P0, ?_⟩, ?_, ?_⟩
  · rw [h2 181 (by decide) (by decide), h2 184 (by decide) (by decide)]
    exact CR_c d (h0 _ (by omega) (by omega)) (h0 _ (by omega) (by omega)) (h0 _ (by omega) (by omega)) (h0 _ (by omega) (by omega)) (h0 _ (by omega) (by omega)) (h0 _ (by omega) (by omega)) (h2 _ (by decide) (by decide)) (h2 _ (by decide) (by decide)) (h2 _ (by decide) (by decide))
  · rw [h2 186 (by decide) (by decide), h2 184 (by decide) (by decide)]
    exact CR_c e (h0 _ (by omega) (by omega)) (h0 _ (by omega) (by omega)) (h0 _ (by omega) (by omega)) (h0 _ (by omega) (by omega)) (h0 _ (by omega) (by omega)) (h0 _ (by omega) (by omega)) (h2 _ (by decide) (by decide)) (h2 _ (by decide) (by decide)) (h2 _ (by decide) (by decide))
  · unfold WQ at f ⊢
    rw [h0 (25 + 15 * m + 4) (by omega) (by omega), h0 (25 + 15 * m + 5) (by omega) (by omega), h0 (25 + 15 * m + 1) (by omega) (by omega), h0 (25 + 15 * m + 2) (by omega) (by omega), h0 (25 + 15 * m + 3) (by omega) (by omega)]
    exact f
  · unfold WQ at g ⊢
    rw [h0 (31 + 15 * m + 4) (by omega) (by omega), h0 (31 + 15 * m + 5) (by omega) (by omega), h0 (31 + 15 * m + 1) (by omega) (by omega), h0 (31 + 15 * m + 2) (by omega) (by omega), h0 (31 + 15 * m + 3) (by omega) (by omega)]
    exact g
  · rw [h0 (37 + 15 * m) (by omega) (by omega), h2 190 (by decide) (by decide)]
    exact i
theorem RD_c {n k s : Nat} {Ps : Nat → Nat → Nat → Prop} (h : RD n k s Mc Mm Ps) (hn : n ≤ 6) (h0 : ∀ q, 25 ≤ q → q ≤ 112 → Mc'.1 q = Mc.1 q) (h2 : ∀ q, 181 ≤ q → q ≤ 190 → Mm'.1 q = Mm.1 q) : RD n k s Mc' Mm' Ps := fun m hm => RM_c (h m hm) (fun q h1 h3 => h0 q (by omega) (by omega)) h2
theorem RX_c (h : RX Mc Mm) (h0 : ∀ m, m < 6 → Mc'.1 (24 + 15 * m) 4 = Mc.1 (24 + 15 * m) 4) (h2 : Mm'.1 180 = Mm.1 180) : RX Mc' Mm' := fun m hm => by
  rw [h0 m hm, h2]
  exact h m hm
theorem RE_c {s h : Nat} (hh : RE s h Mc Mm) (h0 : Mc'.1 0 9 = Mc.1 0 9) (h1 : Mc'.1 7 = Mc.1 7) (h2 : ∀ q, 9 ≤ q → q ≤ 22 → Mc'.1 q = Mc.1 q ∧ Mc'.2.1 q = Mc.2.1 q ∧ Mc'.2.2.1 q = Mc.2.2.1 q) (h23 : Mm'.1 174 23 = Mm.1 174 23) (h42 : Mm'.1 174 42 = Mm.1 174 42) (h44 : Mm'.1 174 44 = Mm.1 174 44) (h4 : ∀ q, 201 ≤ q → q ≤ 209 → Mm'.1 q = Mm.1 q ∧ Mm'.2.1 q = Mm.2.1 q ∧ Mm'.2.2.1 q = Mm.2.2.1 q) : RE s h Mc' Mm' := by
  obtain ⟨a, b, c, d, ⟨e1, e2, e3⟩, ⟨f1, f2, f3⟩, ⟨e, g1, g2, g3, g4, g5⟩, i⟩ := hh
  refine ⟨a, by rw [h1]; exact b, by rw [h23]; exact c, by rw [h0]; exact d, ⟨fun t ht j hj => ?_, fun t ht j hj => ?_, ?_⟩, ⟨fun j hj => ?_, fun j hj => ?_, fun j hj => ?_⟩, ⟨e, g1, by rw [h1]; exact g2, by rw [h44]; exact g3, ?_, ?_⟩, fun hw => ?_⟩
  · rw [(h2 (9 + t) (by omega) (by omega)).1, (h4 201 (by decide) (by decide)).2.1]
    exact e1 t ht j hj
  · rw [(h2 (13 + t) (by omega) (by omega)).2.1, (h4 202 (by decide) (by decide)).2.1]
    exact e2 t ht j hj
  · rw [(h4 202 (by decide) (by decide)).2.1]
    exact e3
  · rw [(h2 16 (by decide) (by decide)).2.1, (h4 202 (by decide) (by decide)).2.1, (h4 205 (by decide) (by decide)).2.1]
    exact f1 j hj
  · rw [(h2 17 (by decide) (by decide)).1, (h4 203 (by decide) (by decide)).1]
    exact f2 j hj
  · rw [(h2 18 (by decide) (by decide)).2.2, (h4 204 (by decide) (by decide)).2.2]
    exact f3 j hj
  · rw [(h2 20 (by decide) (by decide)).1, (h2 21 (by decide) (by decide)).1, (h2 22 (by decide) (by decide)).1, (h4 207 (by decide) (by decide)).1, (h4 208 (by decide) (by decide)).1, (h4 209 (by decide) (by decide)).1]
    exact g4
  · rw [(h2 22 (by decide) (by decide)).1]
    exact g5
  · rw [h0] at hw
    obtain ⟨I, j1, j2, j3, j4, j5⟩ := i hw
    refine ⟨I, j1, j2, by rw [h1]; exact j3, by rw [h42]; exact j4, ?_⟩
    rw [(h2 19 (by decide) (by decide)).1, (h4 206 (by decide) (by decide)).1]
    exact j5
theorem RF_c {h : Nat} (hh : RF h Mc Mm) (h1 : Mc'.1 5 = Mc.1 5) (h2 : Mc'.1 6 = Mc.1 6) (h3 : Mm'.1 174 35 = Mm.1 174 35) (h4 : Mm'.1 200 = Mm.1 200) : RF h Mc' Mm' := by
  unfold RF at hh ⊢
  rw [h1, h2, h3, h4]
  exact hh
theorem RG_c (h : RG Mc Mm) (h1 : Mc'.1 1 = Mc.1 1) (h3 : Mm'.1 174 33 = Mm.1 174 33) (h4 : Mm'.1 174 34 = Mm.1 174 34) : RG Mc' Mm' := by
  unfold RG at h ⊢
  rw [h1, h3, h4]
  exact h
theorem FR_c {t f p pm d u : Nat} (h : FR Mc Mm t f p pm d u) (h0 : Mc'.1 (116 + 17 * t + 3 * f) = Mc.1 (116 + 17 * t + 3 * f)) (h1 : Mc'.1 (116 + 17 * t + 3 * f + 1) = Mc.1 (116 + 17 * t + 3 * f + 1)) (h2 : Mc'.1 (116 + 17 * t + 3 * f + 2) = Mc.1 (116 + 17 * t + 3 * f + 2)) (h3 : Mm'.1 195 (5 * t + f) = Mm.1 195 (5 * t + f)) (h4 : Mm'.1 196 (5 * t + f) = Mm.1 196 (5 * t + f)) (h5 : Mm'.1 197 (5 * t + f) = Mm.1 197 (5 * t + f)) (h6 : ∀ j, j < 4 → Mm'.1 198 (4 * (5 * t + f) + j) = Mm.1 198 (4 * (5 * t + f) + j)) (h7 : ∀ j, j < d → Mm'.1 199 (6 * (5 * t + f) + j) = Mm.1 199 (6 * (5 * t + f) + j)) : FR Mc' Mm' t f p pm d u := by
  obtain ⟨a, b, c, d1, e, g, i, j, z⟩ := h
  exact ⟨by rw [h0]; exact a, by rw [h0]; exact b, by rw [h0]; exact c, by rw [h3]; exact d1, by rw [h4]; exact e, by rw [h5]; exact g, fun k hk => by rw [h1, h6 k hk]; exact i k hk, fun k hk => by rw [h2, h7 k hk]; exact j k hk, z⟩
theorem FI_c {n : Nat} {Ps : Nat → Nat → Nat → Prop} {top : Prop} {p d u : Nat} (h : FI Mc n Ps top p d u) (hn : n ≤ 6) (h0 : ∀ m, m < 6 → Mc'.1 (35 + 15 * m) = Mc.1 (35 + 15 * m)) : FI Mc' n Ps top p d u := by
  obtain ⟨a, b⟩ := h
  refine ⟨a, ?_⟩
  rw [h0 u (by omega)]
  exact b
theorem SR_c {n t : Nat} {Ps : Nat → Nat → Nat → Prop} (h : SR Mc Mm n Ps t) (hn : n ≤ 6) (ht : t < 3) (h9 : Mc'.1 0 9 = Mc.1 0 9) (h0 : ∀ m, m < 6 → Mc'.1 (35 + 15 * m) = Mc.1 (35 + 15 * m)) (h1 : ∀ q, 114 + 17 * t ≤ q → q ≤ 130 + 17 * t → Mc'.1 q = Mc.1 q) (h2 : ∀ q, 192 ≤ q → q ≤ 194 → Mm'.1 q t = Mm.1 q t) (h3 : ∀ q, 195 ≤ q → q ≤ 197 → ∀ f, f < 5 → Mm'.1 q (5 * t + f) = Mm.1 q (5 * t + f)) (h4 : ∀ f, f < 5 → ∀ j, j < 4 → Mm'.1 198 (4 * (5 * t + f) + j) = Mm.1 198 (4 * (5 * t + f) + j)) (h5 : ∀ f, f < 5 → ∀ j, Mm'.1 199 (6 * (5 * t + f) + j) = Mm.1 199 (6 * (5 * t + f) + j)) : SR Mc' Mm' n Ps t := by
  obtain ⟨a, c, b1, b2, b3, b4, b5, b6⟩ := h
  have g0 := h1 (114 + 17 * t) (by omega) (by omega)
  refine ⟨by rw [g0]; exact a, c, b1, by rw [g0]; exact b2, by rw [h2 192 (by decide) (by decide)]; exact b3, by rw [g0, h2 193 (by decide) (by decide), h2 194 (by decide) (by decide)]; exact b4, by rw [h9, h2 193 (by decide) (by decide)]; exact b5, fun f hf => ?_⟩
  obtain ⟨p, d, u, h8, h9⟩ := b6 f hf
  exact ⟨p, d, u, FR_c h8 (h1 _ (by omega) (by omega)) (h1 _ (by omega) (by omega)) (h1 _ (by omega) (by omega)) (h3 195 (by decide) (by decide) f (by omega)) (h3 196 (by decide) (by decide) f (by omega)) (h3 197 (by decide) (by decide) f (by omega)) (h4 f (by omega)) (fun j _ => h5 f (by omega) j), FI_c h9 hn h0⟩
theorem RS_c {n : Nat} {Ps : Nat → Nat → Nat → Prop} (h : RS Mc Mm n Ps) (hn : n ≤ 6) (h9 : Mc'.1 0 9 = Mc.1 0 9) (h0 : ∀ m, m < 6 → Mc'.1 (35 + 15 * m) = Mc.1 (35 + 15 * m)) (h1 : ∀ q, 114 ≤ q → q ≤ 164 → Mc'.1 q = Mc.1 q) (h2 : ∀ q, 192 ≤ q → q ≤ 199 → Mm'.1 q = Mm.1 q) : RS Mc' Mm' n Ps := fun t ht => SR_c (h t ht) hn ht h9 h0 (fun q a b => h1 q (by omega) (by omega)) (fun q a b => by rw [h2 q a (by omega)]) (fun q a b f _ => by rw [h2 q (by omega) (by omega)]) (fun f _ j _ => by rw [h2 198 (by decide) (by decide)]) (fun f _ j => by rw [h2 199 (by decide) (by decide)])
/-- nothing that matters has changed -/
def eqC (Mc Mc' : fm_M) : Prop := ∀ k, k < 171 → Mc'.1 k = Mc.1 k ∧ Mc'.2.1 k = Mc.2.1 k ∧ Mc'.2.2.1 k = Mc.2.2.1 k
def eqM (Mm Mm' : fm_M) : Prop := e174 Mm Mm' ∧ ∀ k, 175 ≤ k → k < 210 → k ≠ 191 → Mm'.1 k = Mm.1 k ∧ Mm'.2.1 k = Mm.2.1 k ∧ Mm'.2.2.1 k = Mm.2.2.1 k
theorem Rx_c {n k s h : Nat} {Ps : Nat → Nat → Nat → Prop} (hr : Rx n k s h Ps Mc Mm) (hc : eqC Mc Mc') (hm : eqM Mm Mm') : Rx n k s h Ps Mc' Mm' := by
  obtain ⟨a, b, c, d, e, f, g, i, j⟩ := hr
  have c1 : ∀ q, q < 171 → Mc'.1 q = Mc.1 q := fun q hq => (hc q hq).1
  have m1 : ∀ q, 175 ≤ q → q < 210 → q ≠ 191 → Mm'.1 q = Mm.1 q := fun q h1 h2 h3 => (hm.2 q h1 h2 h3).1
  refine ⟨RA_c a (c1 0 (by decide)) (fun j h1 _ => hm.1 j (by omega)), RB_c b (c1 2 (by decide)) (c1 3 (by decide)) (hm.1 1 (by decide)) (m1 175 (by decide) (by decide) (by decide)) (m1 176 (by decide) (by decide) (by decide)), RC_c c (fun q h1 h2 => c1 q (by omega)) (hm.1 4 (by decide)) (hm.1 7 (by decide)) (fun q h1 h2 => m1 q (by omega) (by omega) (by omega)), RD_c d a.1 (fun q h1 h2 => c1 q (by omega)) (fun q h1 h2 => m1 q (by omega) (by omega) (by omega)), RX_c e (fun m hm => by rw [c1 (24 + 15 * m) (by omega)]) (m1 180 (by decide) (by decide) (by decide)), RE_c f (by rw [c1 0 (by decide)]) (c1 7 (by decide)) (fun q h1 h2 => hc q (by omega)) (hm.1 23 (by decide)) (hm.1 42 (by decide)) (hm.1 44 (by decide)) (fun q h1 h2 => hm.2 q (by omega) (by omega) (by omega)), RF_c g (c1 5 (by decide)) (c1 6 (by decide)) (hm.1 35 (by decide)) (m1 200 (by decide) (by decide) (by decide)), RG_c i (c1 1 (by decide)) (hm.1 33 (by decide)) (hm.1 34 (by decide)), RS_c j a.1 (by rw [c1 0 (by decide)]) (fun m h9 => c1 _ (by omega)) (fun q h1 h2 => c1 q (by omega)) (fun q h1 h2 => m1 q (by omega) (by omega) (by omega))⟩
theorem Rel_c (hr : Rel Mc Mm) (hc : eqC Mc Mc') (hm : eqM Mm Mm') : Rel Mc' Mm' := by
  obtain ⟨n, k, s, h, Ps, hr⟩ := hr
  exact ⟨n, k, s, h, Ps, Rx_c hr hc hm⟩
end CONGR
theorem eqC_r (M : fm_M) : eqC M M := fun _ _ => ⟨rfl, rfl, rfl⟩
theorem eqM_r (M : fm_M) : eqM M M := ⟨fun _ _ => rfl, fun _ _ _ _ => ⟨rfl, rfl, rfl⟩⟩
/-- what the class does leaves the reference's cells, and the other way round -/
theorem eqM_sm {S : Nat → Prop} {M M' : fm_M} (h : sm S M M') (hS : ∀ k, 174 ≤ k → k < 210 → ¬ S k) : eqM M M' := ⟨fun j _ => by rw [(h 174 (hS 174 (by decide) (by decide))).1], fun k h1 h2 _ => ⟨(h k (hS k (by omega) h2)).1, (h k (hS k (by omega) h2)).2.1, (h k (hS k (by omega) h2)).2.2.1⟩⟩
theorem eqC_sm {S : Nat → Prop} {M M' : fm_M} (h : sm S M M') (hS : ∀ k, k < 171 → ¬ S k) : eqC M M' := fun k hk => ⟨(h k (hS k hk)).1, (h k (hS k hk)).2.1, (h k (hS k hk)).2.2.1⟩
theorem eqM_t (M : fm_M) (v : Int32) : eqM M (fm_sI M 174 0 v) := ⟨fun j hj => by simp [sI_r, hj], fun k h1 h2 _ => ⟨fm_u_ne (by omega), rfl, rfl⟩⟩
theorem eqM_tr {M M1 M2 : fm_M} (h1 : eqM M M1) (h2 : eqM M1 M2) : eqM M M2 := ⟨fun j hj => (h2.1 j hj).trans (h1.1 j hj), fun k a b c => by
  obtain ⟨a1, a2, a3⟩ := h1.2 k a b c
  obtain ⟨b1, b2, b3⟩ := h2.2 k a b c
  exact ⟨b1.trans a1, b2.trans a2, b3.trans a3⟩⟩
theorem eqC_tr {M M1 M2 : fm_M} (h1 : eqC M M1) (h2 : eqC M1 M2) : eqC M M2 := fun k a => by
  obtain ⟨a1, a2, a3⟩ := h1 k a
  obtain ⟨b1, b2, b3⟩ := h2 k a
  exact ⟨b1.trans a1, b2.trans a2, b3.trans a3⟩
theorem eqC_I {M : fm_M} {k j : Nat} {v : Int32} (h : 171 ≤ k) : eqC M (fm_sI M k j v) := fun q hq => ⟨fm_u_ne (by omega), rfl, rfl⟩
theorem eqC_J {M : fm_M} {k j : Nat} {v : Int64} (h : 171 ≤ k) : eqC M (fm_sJ M k j v) := fun q hq => ⟨rfl, fm_u_ne (by omega), rfl⟩
theorem eqC_D {M : fm_M} {k j : Nat} {v : UInt64} : eqC M (fm_sD M k j v) := fun q hq => ⟨rfl, rfl, rfl⟩
theorem eqM_J {M : fm_M} {k j : Nat} {v : Int64} (h : k < 174 ∨ 210 ≤ k) : eqM M (fm_sJ M k j v) := ⟨fun _ _ => rfl, fun q h1 h2 _ => ⟨rfl, fm_u_ne (by omega), rfl⟩⟩
theorem eqM_I {M : fm_M} {k j : Nat} {v : Int32} (h : k < 174 ∨ 210 ≤ k) : eqM M (fm_sI M k j v) := ⟨fun _ _ => congrFun (fm_u_ne (by omega)) _, fun q h1 h2 _ => ⟨fm_u_ne (by omega), rfl, rfl⟩⟩
theorem eqM_F {M : fm_M} {k j : Nat} {v : UInt32} (h : k < 174 ∨ 210 ≤ k) : eqM M (fm_sF M k j v) := ⟨fun _ _ => rfl, fun q h1 h2 _ => ⟨rfl, rfl, fm_u_ne (by omega)⟩⟩
theorem eqM_D {M : fm_M} {k j : Nat} {v : UInt64} : eqM M (fm_sD M k j v) := ⟨fun _ _ => rfl, fun q h1 h2 _ => ⟨rfl, rfl, rfl⟩⟩
