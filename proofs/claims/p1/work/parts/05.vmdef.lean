/-! ===== a memory of named cells; V: from here the machine comes to its end; CTk: a method's contract over that memory ===== -/
section VMD
/-- classes by their tags: 1 Caches, 2 Forest, 3 Heads, 4 Machine, 5 Program, 6 Recorder, 7 Shapes, 8 Slots, 9 Trace, 10 Wheel, 11 Tracewheel, 12 TracewheelModel; arrays: 21 int, 22 char, 23 boolean, 24 long, 25 double, 26 Trace, 27 the script -/
def vmQ (t : Nat) : vw_C := match t with
  | 1 => (RX0, TX0, 4) | 2 => (RX1, TX1, 6) | 3 => (RX2, TX2, 3) | 4 => (RX3, TX3, 16) | 5 => (RX5, TX5, 10) | 6 => (RX6, TX6, 16)
  | 7 => (RX7, TX7, 7) | 8 => (RX8, TX8, 4) | 9 => (RX9, TX9, 17) | 10 => (RX10, TX10, 13) | 11 => (RX11, TX11, 6) | _ => (RX12, TX12, 91)
def xty (t : Nat) : Nat → FieldType := match t with
  | 1 => tyX0 | 2 => tyX1 | 3 => tyX2 | 4 => tyX3 | 5 => tyX5 | 6 => tyX6 | 7 => tyX7 | 8 => tyX8 | 9 => tyX9 | 10 => tyX10 | 11 => tyX11 | 12 => tyX12
  | 21 => fun _ => .int | 22 => fun _ => .char | 23 => fun _ => .boolean | 24 => fun _ => .long | 25 => fun _ => .double | 26 => fun _ => .object "Tracewheel$Trace" | _ => fun _ => .int
abbrev xG : Type := (Nat → ClassId) × (Nat → Nat → Nat)
def xpos (D : xG) (t j : Nat) : Nat := if t ≤ 20 then D.2 t j else j
def oref (r : Option Nat) : Value := match r with | none => .null | some b => .ref b
def xval (M : Mem) (a j : Nat) (ty : FieldType) : Value := match ty with
  | .long => .long (mL M a j)
  | .double => .double (mD M a j)
  | .object _ => oref (mR M a j)
  | .array _ => oref (mR M a j)
  | _ => .int (mI M a j)
/-- a double for a double: itself, or for a NaN some quiet NaN -/
def alq (v u : UInt64) : Prop := (isNaN64 u = false ∧ v = u) ∨ (isNaN64 u = true ∧ isNaN64 v = true ∧ v &&& 0x0008000000000000 ≠ 0)
def xRv (ad : Nat → Nat) (M : Mem) (x y : Value) : Prop := match x with
  | .double u => ∃ v, y = .double v ∧ alq v u
  | .ref a => y = .ref (ad a) ∧ mK M a ≠ 0
  | .int v => y = .int v
  | .long v => y = .long v
  | .float v => y = .float v
  | .null => y = .null
  | .retAddr v => y = .ref (ad (2147483648 + v))
/-- what a named cell is to the machine: known; and no cell of its own, but the script may be one -/
def xVm (t : Nat) (v : VmData) : Prop := v ≠ .unknown ∧ (∀ k, v ≠ .statics k) ∧ (t ≠ 27 → v = .none)
def xCell (D : xG) (ad : Nat → Nat) (M : Mem) (H : Heap) (a : Nat) : Prop :=
  ∃ (cell : Cell) (Vv : Nat → Value), H[ad a]? = some cell ∧ cell.cls = D.1 (mK M a) ∧ xVm (mK M a) cell.vm ∧
    (∀ j, j < mN M a → cell.slots[xpos D (mK M a) j]? = some (Vv j) ∧ xRv ad M (xval M a j (xty (mK M a) j)) (Vv j)) ∧
    (20 < mK M a → cell.slots.size = mN M a ∧ mN M a < 2 ^ 31 ∧ 21 ≤ mK M a ∧ mK M a ≤ 27) ∧ (mK M a ≤ 20 → 1 ≤ mK M a ∧ mK M a ≤ 12 ∧ mN M a = (vmQ (mK M a)).2.2)
def xRep (D : xG) (ad : Nat → Nat) (base : Nat) (M : Mem) (H : Heap) : Prop :=
  (∀ a, mK M a ≠ 0 → xCell D ad M H a ∧ (mK M a ≠ 27 → base ≤ ad a)) ∧ ∀ a b, mK M a ≠ 0 → mK M b ≠ 0 → ad a = ad b → a = b
def xKn (D : xG) (U : State) : Prop :=
  (∀ t, 1 ≤ t → t ≤ 12 → u_Kn U (vmQ t).1 (vmQ t).2.1 (vmQ t).2.2 (D.1 t) (D.2 t)) ∧ (∀ t, 21 ≤ t → t ≤ 27 → ArrOfT U (D.1 t) (xty t 0)) ∧ (∀ t, 21 ≤ t → t ≤ 26 → va_RA U (D.1 t) (xty t 0))
def xA (base : Nat) : Nat → Prop := fun q => base ≤ q
def xRvs (ad : Nat → Nat) (M : Mem) : List Value → List Value → Prop
  | [], [] => True
  | x :: xs, y :: ys => xRv ad M x y ∧ xRvs ad M xs ys
  | _, _ => False
def xRl (ad : Nat → Nat) (M : Mem) : List (Nat × Value) → List (Nat × Value) → Prop
  | [], [] => True
  | x :: xs, y :: ys => (x.1 = y.1 ∧ xRv ad M x.2 y.2) ∧ xRl ad M xs ys
  | _, _ => False
def xRo (ad : Nat → Nat) (M : Mem) : Option Value → Option Value → Prop
  | none, none => True
  | some x, some y => xRv ad M x y
  | _, _ => False
def xExt (M : Mem) (ad : Nat → Nat) (M' : Mem) (ad' : Nat → Nat) : Prop := (∀ a, mK M a ≠ 0 → mT M' a = mT M a ∧ ad' a = ad a) ∧ ∀ q, ad' (2147483648 + q) = ad (2147483648 + q)
end VMD
