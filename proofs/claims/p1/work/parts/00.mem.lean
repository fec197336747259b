/-! ===== the memory of named cells, and what a reckoning is made of ===== -/
section VMM
/-- ints, longs, doubles and references by name and place; tag and length by name; the next free name, the cells and the slots used up -/
abbrev Mem : Type := (Nat → Nat → Int32) × (Nat → Nat → Int64) × (Nat → Nat → UInt64) × (Nat → Nat → Option Nat) × (Nat → Nat × Nat) × (Nat × Nat × Nat)
def mI (M : Mem) (a i : Nat) : Int32 := M.1 a i
def mL (M : Mem) (a i : Nat) : Int64 := M.2.1 a i
def mD (M : Mem) (a i : Nat) : UInt64 := M.2.2.1 a i
def mR (M : Mem) (a i : Nat) : Option Nat := M.2.2.2.1 a i
def mT (M : Mem) (a : Nat) : Nat × Nat := M.2.2.2.2.1 a
def nx (M : Mem) : Nat := M.2.2.2.2.2.1
def uC (M : Mem) : Nat := M.2.2.2.2.2.2.1
def uS (M : Mem) : Nat := M.2.2.2.2.2.2.2
def mK (M : Mem) (a : Nat) : Nat := (mT M a).1
def mN (M : Mem) (a : Nat) : Nat := (mT M a).2
def up2 {α : Type} (f : Nat → Nat → α) (a i : Nat) (v : α) : Nat → Nat → α := fun b j => if b = a then (if j = i then v else f b j) else f b j
def clr {α : Type} (f : Nat → Nat → α) (a : Nat) (v : α) : Nat → Nat → α := fun b j => if b = a then v else f b j
def sI (M : Mem) (a i : Nat) (v : Int32) : Mem := (up2 M.1 a i v, M.2)
def sL (M : Mem) (a i : Nat) (v : Int64) : Mem := (M.1, up2 M.2.1 a i v, M.2.2)
def sD (M : Mem) (a i : Nat) (v : UInt64) : Mem := (M.1, M.2.1, up2 M.2.2.1 a i v, M.2.2.2)
def sR (M : Mem) (a i : Nat) (v : Option Nat) : Mem := (M.1, M.2.1, M.2.2.1, up2 M.2.2.2.1 a i v, M.2.2.2.2)
def sN (M : Mem) (a t n : Nat) : Mem := (clr M.1 a 0, clr M.2.1 a 0, clr M.2.2.1 a 0, clr M.2.2.2.1 a none, fun b => if b = a then (t, n) else M.2.2.2.2.1 b, (a + 1, uC M + 1, uS M + n))
/-- room for a cell without a name -/
def tk (M : Mem) (n : Nat) : Mem := (M.1, M.2.1, M.2.2.1, M.2.2.2.1, M.2.2.2.2.1, (nx M, uC M + 1, uS M + n))
def xSTab : List (String × Nat × String × List Int32) := [("Tracewheel", 72, "iklsud+-*/%<w=jzngpcmrt", [105, 107, 108, 115, 117, 100, 43, 45, 42, 47, 37, 60, 119, 61, 106, 122, 110, 103, 112, 99, 109, 114, 116]), ("Tracewheel$Machine", 173, "+-*/%<=", [43, 45, 42, 47, 37, 60, 61]), ("Tracewheel$Machine", 187, "+-*/%<", [43, 45, 42, 47, 37, 60]), ("Tracewheel$Recorder", 120, "+-*/%<=", [43, 45, 42, 47, 37, 60, 61]), ("Tracewheel$Recorder", 135, "+-*/", [43, 45, 42, 47]), ("Tracewheel$Recorder", 167, "ikngw+-*/%<=", [105, 107, 110, 103, 119, 43, 45, 42, 47, 37, 60, 61]), ("Tracewheel", 418, "gpm", [103, 112, 109])]
def sB (i : Nat) : List Int32 := ((xSTab[i]?).map (fun q => q.2.2.2)).getD []
/-- an obligation within a reckoning -/
noncomputable def okk {α : Type} (p : Prop) (x : Option α) : Option α := @ite _ p (Classical.propDecidable p) x none
def bnd {α β : Type} (x : α) (f : α → Option β) : Option β := f x
theorem okE {α : Type} {p : Prop} {x : Option α} {z : α} (h : okk p x = some z) : p ∧ x = some z := by
  unfold okk at h
  by_cases hp : p
  · rw [if_pos hp] at h; exact ⟨hp, h⟩
  · rw [if_neg hp] at h; cases h
theorem okk_pos {α : Type} {p : Prop} {x : Option α} (hp : p) : okk p x = x := by unfold okk; exact if_pos hp
theorem bndE {α β : Type} {x : α} {f : α → Option β} {z : β} (h : bnd x f = some z) : ∃ y, y = x ∧ f y = some z := ⟨x, rfl, h⟩
theorem bindE {α β : Type} {x : Option α} {f : α → Option β} {z : β} (h : x.bind f = some z) : ∃ y, x = some y ∧ f y = some z := by
  cases x with
  | none => cases h
  | some y => exact ⟨y, rfl, h⟩
theorem ifT {α : Type} {c : Prop} {i : Decidable c} {a b : Option α} {z : α} (hc : c) (h : (if c then a else b) = some z) : a = some z := by rwa [if_pos hc] at h
theorem ifF {α : Type} {c : Prop} {i : Decidable c} {a b : Option α} {z : α} (hc : ¬ c) (h : (if c then a else b) = some z) : b = some z := by rwa [if_neg hc] at h
def nTab : List (Nat × Nat) := [(11, 6), (5, 10), (21, 8), (21, 8), (21, 8), (22, 320), (21, 320), (21, 8), (21, 5), (21, 30), (7, 7), (21, 60), (21, 60), (21, 60), (21, 360), (21, 360), (21, 5), (4, 16), (8, 4), (22, 549), (21, 549), (25, 549), (21, 549), (21, 12), (21, 12), (21, 12), (21, 60), (4, 16), (8, 4), (22, 549), (21, 549), (25, 549), (21, 549), (21, 12), (21, 12), (21, 12), (21, 60), (10, 13), (1, 4), (21, 960), (21, 320), (21, 320), (21, 320), (3, 3), (21, 320), (21, 320), (21, 320), (6, 16), (21, 30), (21, 31), (21, 120), (21, 120), (21, 120), (21, 120), (21, 378), (9, 17), (21, 0), (21, 1), (21, 0), (21, 0), (21, 0), (21, 0), (21, 0), (21, 0), (21, 0), (21, 0), (2, 6), (26, 20), (12, 91), (21, 8), (21, 8), (22, 320), (21, 320), (21, 8), (21, 8), (21, 5), (21, 30), (21, 5), (21, 60), (21, 60), (21, 360), (21, 360), (21, 320), (21, 960), (21, 320), (21, 320), (21, 320), (21, 320), (23, 20), (21, 20), (21, 600), (21, 20), (21, 20), (21, 20), (21, 20), (21, 20), (22, 2400), (21, 2400), (21, 2400), (21, 2400), (21, 2400), (21, 2400), (21, 2400), (21, 2400), (22, 168), (21, 168), (25, 168), (21, 168), (21, 12), (21, 12), (21, 12), (21, 60), (22, 360), (21, 360), (25, 360), (22, 20), (24, 20), (21, 30), (22, 120), (21, 120), (21, 120), (21, 120), (22, 600), (23, 600), (21, 600), (21, 600), (24, 1), (25, 1)]
def rTab : List (Nat × Nat × Nat) := [(1, 0, 2), (1, 1, 11), (1, 2, 18), (1, 3, 28), (1, 4, 38), (2, 0, 3), (2, 1, 4), (2, 2, 5), (2, 3, 6), (2, 4, 7), (2, 5, 8), (2, 6, 9), (2, 7, 10), (11, 0, 12), (11, 1, 13), (11, 2, 14), (11, 3, 15), (11, 4, 16), (11, 5, 17), (18, 0, 2), (18, 1, 11), (18, 2, 19), (18, 3, 24), (18, 4, 25), (18, 5, 26), (18, 6, 27), (19, 0, 20), (19, 1, 21), (19, 2, 22), (19, 3, 23), (28, 0, 2), (28, 1, 11), (28, 2, 29), (28, 3, 34), (28, 4, 35), (28, 5, 36), (28, 6, 37), (29, 0, 30), (29, 1, 31), (29, 2, 32), (29, 3, 33), (38, 0, 18), (38, 1, 39), (38, 2, 44), (38, 3, 48), (38, 4, 67), (39, 0, 40), (39, 1, 41), (39, 2, 42), (39, 3, 43), (44, 0, 45), (44, 1, 46), (44, 2, 47), (48, 0, 49), (48, 1, 50), (48, 2, 51), (48, 3, 52), (48, 4, 53), (48, 5, 54), (48, 6, 55), (67, 0, 2), (67, 1, 44), (67, 2, 68), (69, 2, 70), (69, 3, 71), (69, 4, 72), (69, 5, 73), (69, 6, 74), (69, 7, 75), (69, 9, 76), (69, 10, 77), (69, 11, 78), (69, 13, 79), (69, 14, 80), (69, 15, 81), (69, 16, 82), (69, 17, 83), (69, 18, 84), (69, 19, 85), (69, 20, 86), (69, 21, 87), (69, 22, 88), (69, 27, 89), (69, 28, 90), (69, 29, 91), (69, 30, 92), (69, 31, 93), (69, 32, 94), (69, 33, 95), (69, 34, 96), (69, 36, 97), (69, 37, 98), (69, 38, 99), (69, 39, 100), (69, 40, 101), (69, 41, 102), (69, 42, 103), (69, 43, 104), (69, 44, 105), (69, 45, 106), (69, 46, 107), (69, 47, 108), (69, 49, 109), (69, 50, 110), (69, 51, 111), (69, 53, 112), (69, 54, 113), (69, 55, 114), (69, 56, 115), (69, 60, 116), (69, 61, 117), (69, 77, 118), (69, 79, 119), (69, 80, 120), (69, 81, 121), (69, 82, 122), (69, 84, 123), (69, 85, 124), (69, 86, 125), (69, 87, 126)]
/-- every name from the next one on is free -/
def Fsh (M : Mem) : Prop := ∀ a, nx M ≤ a → mK M a = 0
def Lay (M : Mem) : Prop := (∀ (i : Nat) (e : Nat × Nat), nTab[i]? = some e → mT M (i + 1) = e) ∧ (∀ (i : Nat) (e : Nat × Nat × Nat), rTab[i]? = some e → mR M e.1 e.2.1 = some e.2.2) ∧ mK M 0 = 27 ∧ 129 ≤ nx M ∧ Fsh M
/-- since M0 only names from r on, and new ones, have changed their references -/
def Kx (r : Nat) (M0 M : Mem) : Prop := Fsh M ∧ nx M0 ≤ nx M ∧ (∀ a, a < nx M0 → mT M a = mT M0 a) ∧ (∀ a j, a < nx M0 → a < r → mR M a j = mR M0 a j) ∧ r ≤ nx M0
def fuel : Nat := 4000000
def lp {α β : Type} (body : (α → Mem → Option β) → α → Mem → Option β) : Nat → α → Mem → Option β
  | 0, _, _ => none
  | n + 1, a, M => body (lp body n) a M
theorem lp_ind {α β : Type} {body : (α → Mem → Option β) → α → Mem → Option β} {G : α → Mem → β → Prop} (h : ∀ k, (∀ a M z, k a M = some z → G a M z) → ∀ a M z, body k a M = some z → G a M z) : ∀ n a M z, lp body n a M = some z → G a M z
  | 0, _, _, _, e => by cases e
  | n + 1, a, M, z, e => h (lp body n) (lp_ind h n) a M z e
abbrev isCh (v : Int32) : Prop := 0 ≤ v ∧ v ≤ 65535
abbrev isBo (v : Int32) : Prop := v = 0 ∨ v = 1
def xIdxF (x : Int32) : List Int32 → Nat → Int32
  | [], _ => -1
  | b :: t, k => if b = x then Int32.ofNat k else xIdxF x t (k + 1)
/-- String.indexOf(char) of the i-th string constant -/
def xIdx (i : Nat) (x : Int32) : Int32 := xIdxF x (sB i) 0
/-- Math.rint -/
def xrint (x : UInt64) : UInt64 := if isNaN64 x then 0x7ff8000000000000 else
  FP.dmul ((x.toInt64 &&& (-9223372036854775808)) ||| 4607182418800017408).toUInt64
    (if FP.cmpInt 1 (FP.dcmp (x.toInt64 &&& 9223372036854775807).toUInt64 4841369599423283200) < 0 then FP.dsub (FP.dadd 4841369599423283200 (x.toInt64 &&& 9223372036854775807).toUInt64) 4841369599423283200 else (x.toInt64 &&& 9223372036854775807).toUInt64)
/-- the memory behind Arrays.copyOf: n ints of a in the new cell b -/
def sC (M : Mem) (a b n : Nat) : Mem := ((fun c j => if c = b then (if j < n then M.1 a j else 0) else M.1 c j), (sN M b 21 n).2)
noncomputable def d_J7_copyOf_59c91 (r0 : Nat) (x1 : Int32) (M : Mem) : Option (Nat × Mem) :=
  okk (mK M r0 = 21) <| okk (0 ≤ x1 ∧ x1 ≤ 100000) <| okk (x1.toNatClampNeg ≤ mN M r0) <| okk (nx M < 2147483648) <| some (nx M, sC M r0 (nx M) x1.toNatClampNeg)
end VMM
