/-! ===== numbers ===== -/
theorem i_0 : (0 : Int32).toInt = 0 := rfl
theorem i_1 : (1 : Int32).toInt = 1 := rfl
theorem i_2 : (2 : Int32).toInt = 2 := rfl
theorem i_4 : (4 : Int32).toInt = 4 := rfl
theorem i_40 : (40 : Int32).toInt = 40 := rfl
theorem i_100 : (100 : Int32).toInt = 100 := rfl
theorem i_400 : (400 : Int32).toInt = 400 := rfl
theorem i_401 : (401 : Int32).toInt = 401 := rfl
theorem i_m1 : (-1 : Int32).toInt = -1 := by decide
theorem i_lt {x y : Int32} : x < y ↔ x.toInt < y.toInt := Int32.lt_iff_toInt_lt
theorem i_le {x y : Int32} : x ≤ y ↔ x.toInt ≤ y.toInt := Int32.le_iff_toInt_le
theorem i_eq {x y : Int32} : x = y ↔ x.toInt = y.toInt := Int32.toInt_inj.symm
theorem i_hi (x : Int32) : x.toInt < 2147483648 := Int32.toInt_lt x
theorem i_lo (x : Int32) : -2147483648 ≤ x.toInt := Int32.le_toInt x
theorem i_cl (x : Int32) : x.toNatClampNeg = x.toInt.toNat := rfl
theorem i_shr (x : Int32) : (x >>> ((1 : Int32) &&& 31)).toInt = x.toInt / 2 := by
  rw [pk_shr x _ 1 (by decide), Int.shiftRight_eq_div_pow]
  rfl
theorem i_bm {z : Int} (h1 : -2147483648 ≤ z) (h2 : z < 2147483648) : z.bmod (2 ^ 32) = z := Int.bmod_eq_of_le (by omega) (by omega)
theorem i_and (x : Int32) : (x &&& 1 = 1) ↔ x.toInt % 2 = 1 := by
  have h1 : (x &&& 1).toBitVec = x.toBitVec &&& 1#32 := rfl
  have h2 : (x &&& 1 = 1) ↔ x.toBitVec &&& 1#32 = 1#32 := by
    rw [← h1]
    exact ⟨fun h => by rw [h]; rfl, fun h => Int32.toBitVec_inj.mp h⟩
  rw [h2]
  have h3 : x.toInt = x.toBitVec.toInt := rfl
  rw [h3, BitVec.toInt_eq_toNat_cond]
  have h4 : (x.toBitVec &&& 1#32 = 1#32) ↔ x.toBitVec.toNat % 2 = 1 := by
    constructor
    · intro h
      have h5 := congrArg BitVec.toNat h
      rw [BitVec.toNat_and] at h5
      have h6 : (1#32).toNat = 1 := rfl
      rw [h6, Nat.and_one_is_mod] at h5
      exact h5
    · intro h
      apply BitVec.eq_of_toNat_eq
      rw [BitVec.toNat_and]
      have h6 : (1#32).toNat = 1 := rfl
      rw [h6, Nat.and_one_is_mod]
      exact h
  rw [h4]
  split <;> omega
theorem i_div (x : Int32) (h : 0 ≤ x.toInt) : (x / 2).toInt = x.toInt / 2 := by
  rw [Int32.toInt_div_of_ne_right x 2 (by decide), i_2, Int.tdiv_eq_ediv_of_nonneg h]
theorem i_rem (x : Int32) : (x - x / 2 * 2 = 0) ↔ x.toInt % 2 = 0 := by
  have e : (x / 2).toInt = x.toInt.tdiv 2 := Int32.toInt_div_of_ne_right x 2 (by decide)
  have hh := i_hi x
  have hl := i_lo x
  have e0 : x.toInt.tdiv 2 * 2 + x.toInt.tmod 2 = x.toInt := by
    have := Int.tdiv_mul_add_tmod x.toInt 2
    exact this
  have e1 : -2 < x.toInt.tmod 2 ∧ x.toInt.tmod 2 < 2 := by
    constructor
    · have := Int.lt_tmod_of_pos x.toInt (show (0 : Int) < 2 by decide); omega
    · exact Int.tmod_lt_of_pos x.toInt (by decide)
  have e2 : 0 ≤ x.toInt → 0 ≤ x.toInt.tmod 2 := fun h => Int.tmod_nonneg 2 h
  have em : (x / 2 * 2).toInt = x.toInt.tdiv 2 * 2 := by
    rw [Int32.toInt_mul, e, i_2, i_bm (by omega) (by omega)]
  have es : (x - x / 2 * 2).toInt = x.toInt.tmod 2 := by
    rw [Int32.toInt_sub, em, i_bm (by omega) (by omega)]
    omega
  rw [i_eq, es, i_0]
  omega
theorem i_mul2 (x : Int32) (h1 : 0 ≤ x.toInt) (h2 : x.toInt ≤ 1000) : (2 * x).toInt = 2 * x.toInt := by
  rw [Int32.toInt_mul, i_2, i_bm (by omega) (by omega)]
theorem i_shl (x : Int32) (h1 : 0 ≤ x.toInt) (h2 : x.toInt ≤ 1000) : x <<< ((1 : Int32) &&& 31) = 2 * x := by
  obtain ⟨j, hj, rfl⟩ := nI_of (x := x) (by rw [i_lt, i_0]; omega)
  rw [nI_toInt hj] at h2
  rw [pk_shlN _ 1 (by decide) (by omega)]
  apply Int32.toInt_inj.mp
  rw [i_mul2 _ h1 (by rw [nI_toInt hj]; exact h2), nI_toInt hj, nI_toInt (by omega)]
  omega
theorem i_add (x y : Int32) (h1 : -2147483648 ≤ x.toInt + y.toInt) (h2 : x.toInt + y.toInt < 2147483648) : (x + y).toInt = x.toInt + y.toInt := by
  rw [Int32.toInt_add, i_bm (by omega) (by omega)]
theorem i_sub (x y : Int32) (h1 : -2147483648 ≤ x.toInt - y.toInt) (h2 : x.toInt - y.toInt < 2147483648) : (x - y).toInt = x.toInt - y.toInt := by
  rw [Int32.toInt_sub, i_bm (by omega) (by omega)]
theorem i_m40 (x : Int32) (h1 : 0 ≤ x.toInt) (h2 : x.toInt ≤ 1000) : (40 * x).toInt = 40 * x.toInt := by
  rw [Int32.toInt_mul, i_40, i_bm (by omega) (by omega)]
/-! ===== the objects of the document ===== -/
def b2i (b : Bool) : Int32 := if b = true then 1 else 0
/-- made, of fields, how many, the fields: by an object's number -/
abbrev Ob : Type := (Nat → Bool) × (Nat → Bool) × (Nat → Nat) × (Nat → Nat → Int32)
def tz (O : Ob) (z : Int) : Option Nat := if 1 ≤ z ∧ z ≤ 400 ∧ O.1 z.toNat = true then some z.toNat else none
def tk (O : Ob) (k : Int32) : Option Nat := tz O k.toInt
def tv (O : Ob) (v : Int32) : Option Nat := if v.toInt % 2 = 0 then tz O (v.toInt / 2) else none
def isV (O : Ob) (v : Int32) : Bool := decide (v = 0) || decide (v.toInt % 2 = 1) || (tv O v).isSome
def fl1 (n : Nat) (g : Nat → Int32) (i : Int32) : Int32 := if 0 ≤ i.toInt ∧ i.toInt < n then g i.toNatClampNeg else 0
def pmF (g : Nat → Int32) (n : Nat) (sel : Int32) : Nat → Nat → Option Nat
  | 0, _ => none
  | q + 1, i => if i + 1 < n then (if g i = sel then some i else pmF g n sel q (i + 2)) else none
def pm (g : Nat → Int32) (n : Nat) (sel : Int32) : Option Nat := pmF g n sel 21 0
def cls (O : Ob) (v : Int32) : Option Nat := match tv O v with
  | none => none
  | some j => if 2 ≤ O.2.2.1 j then some j else none
def bad (O : Ob) (d : Int32) : Bool := if d = 0 then false else match tv O d with
  | none => true
  | some e => !(O.2.1 e)
def fnd (O : Ob) (d sel : Int32) : Option Int32 := match tv O d with
  | none => none
  | some e => match pm (O.2.2.2 e) (O.2.2.1 e) sel with
    | none => none
    | some i => some (O.2.2.2 e (i + 1))
def up (O : Ob) (sel : Int32) : Nat → Int32 → Int32 → Int32 × Int32 × Int32
  | 0, c, _ => (if c = 0 then -1 else -2, 0, 0)
  | q + 1, c, n => if c = 0 then (-1, 0, 0) else match cls O c with
    | none => (-2, 0, 0)
    | some j => if bad O (O.2.2.2 j 1) = true then (-2, 0, 0) else match fnd O (O.2.2.2 j 1) sel with
      | some m => (n, m, c)
      | none => up O sel q (O.2.2.2 j 0) (n + 1)
def lk (O : Ob) (a sel : Int32) : Int32 × Int32 × Int32 := if isV O a = true ∧ isV O sel = true then up O sel 100 a 0 else (-2, 0, 0)
def fab (O : Ob) (wh : Int32) : Int32 := match tv O wh with
  | none => 0
  | some j => fl1 (O.2.2.1 j) (O.2.2.2 j) 0
def abv (O : Ob) (mt wh sel : Int32) : Int32 × Int32 × Int32 := if wh = 0 then (-1, mt, wh) else lk O (fab O wh) sel
def inh (O : Ob) (d : Int32) : Nat → Int32 → Bool
  | 0, _ => false
  | q + 1, x => if x = d then true else match cls O x with
    | none => false
    | some j => inh O d q (O.2.2.2 j 0)
def inhs (O : Ob) (c d : Int32) : Bool := isV O c && !(decide (d = 0)) && inh O d 100 c
def cnt (p : Nat → Bool) : Nat → Int32
  | 0 => 0
  | k + 1 => cnt p k + b2i (p (k + 1))
def upr (O : Ob) (dv : Int32) (k : Nat) : Bool := O.1 k && decide (2 ≤ O.2.2.1 k) && decide (O.2.2.2 k 1 = dv)
def usr (O : Ob) (d : Int32) : Int32 := match tk O d with
  | none => 0
  | some _ => cnt (upr O (2 * d)) 400
def spr (O : Ob) (sel : Int32) (k : Nat) : Bool := O.1 k && decide (2 ≤ O.2.2.1 k) && (fnd O (O.2.2.2 k 1) sel).isSome
def sdr (O : Ob) (sel : Int32) : Int32 := cnt (spr O sel) 400
def swv (x y v : Int32) : Int32 := if v = x then y else if v = y then x else v
def hit (x y v : Int32) : Bool := decide (v = x) || decide (v = y)
def xcn (g : Nat → Int32) (x y : Int32) : Nat → Int32
  | 0 => 0
  | i + 1 => xcn g x y i + b2i (hit x y (g i))
def swf (g : Nat → Int32) (x y : Int32) (n : Nat) : Nat → Int32 := fun j => if j < n then swv x y (g j) else g j
def xt (O : Ob) (x y : Int32) : Nat → Int32
  | 0 => 0
  | k + 1 => xt O x y k + (if O.1 (k + 1) = true then xcn (O.2.2.2 (k + 1)) x y (O.2.2.1 (k + 1)) else 0)
/-- the first i objects have changed -/
def xo (O : Ob) (x y : Int32) (i : Nat) : Ob := (O.1, O.2.1, O.2.2.1, fun k => if 1 ≤ k ∧ k ≤ i ∧ O.1 k = true then swf (O.2.2.2 k) x y (O.2.2.1 k) else O.2.2.2 k)
def bec (O : Ob) (a b : Int32) : Int32 × Ob := match tk O a with
  | none => (-1, O)
  | some _ => match tk O b with
    | none => (-1, O)
    | some _ => if a = b then (0, O) else (xt O (2 * a) (2 * b) 400, xo O (2 * a) (2 * b) 400)
def mkok (k n : Int32) : Prop := 1 ≤ k.toInt ∧ k.toInt ≤ 400 ∧ 0 ≤ n.toInt ∧ n.toInt ≤ 40
def mko (O : Ob) (k n : Int32) (f : Bool) : Ob := (va_up O.1 k.toNatClampNeg true, va_up O.2.1 k.toNatClampNeg f, va_up O.2.2.1 k.toNatClampNeg (if f = true then n.toNatClampNeg else 0), va_up O.2.2.2 k.toNatClampNeg (fun _ => 0))
def obf (O : Ob) (j : Nat) (g : Nat → Int32) : Ob := (O.1, O.2.1, O.2.2.1, va_up O.2.2.2 j g)
/-- put: the answer and the objects -/
def pto (O : Ob) (k i v : Int32) : Int32 × Ob := match tk O k with
  | none => (0, O)
  | some j => if isV O v = true ∧ 0 ≤ i.toInt ∧ i.toInt < O.2.2.1 j then (1, obf O j (upd (O.2.2.2 j) i.toNatClampNeg v)) else (0, O)
def gto (O : Ob) (k i : Int32) : Int32 := match tk O k with
  | none => 0
  | some j => fl1 (O.2.2.1 j) (O.2.2.2 j) i
def szo (O : Ob) (k : Int32) : Int32 := match tk O k with
  | none => -1
  | some j => if O.2.1 j = true then nI (O.2.2.1 j) else -1
def ob0 : Ob := (fun _ => false, fun _ => false, fun _ => 0, fun _ _ => 0)
