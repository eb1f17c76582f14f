/-! ===== the small machine: a heap of typed cells; operations as functions; runs by fuel ===== -/
/-- top, slots made, tags, lengths, ints, longs, references -/
abbrev mH : Type := Nat × Nat × (Nat → Nat) × (Nat → Nat) × (Nat → Nat → Int32) × (Nat → Nat → Int64) × (Nat → Nat → Option Nat)
def mTop (h : mH) : Nat := h.1
def mSl (h : mH) : Nat := h.2.1
def mTg (h : mH) (a : Nat) : Nat := h.2.2.1 a
def mLn (h : mH) (a : Nat) : Nat := h.2.2.2.1 a
def mI (h : mH) (a k : Nat) : Int32 := h.2.2.2.2.1 a k
def mJ (h : mH) (a k : Nat) : Int64 := h.2.2.2.2.2.1 a k
def mP (h : mH) (a k : Nat) : Option Nat := h.2.2.2.2.2.2 a k
/-- one place of a cell changed -/
def up2 {α : Type} (f : Nat → Nat → α) (a k : Nat) (v : α) : Nat → Nat → α := fun b j => if b = a ∧ j = k then v else f b j
def up1 {α : Type} (f : Nat → α) (a : Nat) (v : α) : Nat → α := fun b => if b = a then v else f b
def wI (h : mH) (a k : Nat) (v : Int32) : mH := (h.1, h.2.1, h.2.2.1, h.2.2.2.1, up2 h.2.2.2.2.1 a k v, h.2.2.2.2.2.1, h.2.2.2.2.2.2)
def wJ (h : mH) (a k : Nat) (v : Int64) : mH := (h.1, h.2.1, h.2.2.1, h.2.2.2.1, h.2.2.2.2.1, up2 h.2.2.2.2.2.1 a k v, h.2.2.2.2.2.2)
def wP (h : mH) (a k : Nat) (v : Option Nat) : mH := (h.1, h.2.1, h.2.2.1, h.2.2.2.1, h.2.2.2.2.1, h.2.2.2.2.2.1, up2 h.2.2.2.2.2.2 a k v)
/-- a new cell at the top, of tag t and n slots, with default contents -/
def wN (h : mH) (t n : Nat) : mH := (h.1 + 1, h.2.1 + n, up1 h.2.2.1 h.1 t, up1 h.2.2.2.1 h.1 n, up1 h.2.2.2.2.1 h.1 (fun _ => 0), up1 h.2.2.2.2.2.1 h.1 (fun _ => 0), up1 h.2.2.2.2.2.2 h.1 (fun _ => none))
/-- new int[n][k]: the outer row at the top, the inner ones behind it -/
def wM (h : mH) (n k : Nat) : mH := (h.1 + (1 + n), h.2.1 + (n + n * k),
  fun a => if a = h.1 then 25 else if h.1 < a ∧ a < h.1 + (1 + n) then 20 else h.2.2.1 a,
  fun a => if a = h.1 then n else if h.1 < a ∧ a < h.1 + (1 + n) then k else h.2.2.2.1 a,
  fun a => if h.1 ≤ a ∧ a < h.1 + (1 + n) then (fun _ => 0) else h.2.2.2.2.1 a,
  fun a => if h.1 ≤ a ∧ a < h.1 + (1 + n) then (fun _ => 0) else h.2.2.2.2.2.1 a,
  fun a => if a = h.1 then (fun j => if j < n then some (h.1 + 1 + j) else none) else if h.1 < a ∧ a < h.1 + (1 + n) then (fun _ => none) else h.2.2.2.2.2.2 a)
abbrev mL : Type := List (Option Value)
abbrev mO : Type := Option Value × mH
abbrev mC : Type := Nat → List Value → mH → Option mO
abbrev mK : Type := Nat → mL → List Value → mH → Option mO
abbrev mOp : Type := mC → mK → mL → List Value → mH → Option mO
def o_no : mOp := fun _ _ _ _ _ => none
-- constants, locals
def o_ic (nx : Nat) (v : Int32) : mOp := fun _ k l st h => k nx l (.int v :: st) h
def o_lc (nx : Nat) (v : Int64) : mOp := fun _ k l st h => k nx l (.long v :: st) h
def o_ld (nx i : Nat) : mOp := fun _ k l st h => match l[i]? with
  | some (some v) => k nx l (v :: st) h
  | _ => none
/-- no long stands just ahead of place i -/
def mFree (l : mL) (i : Nat) : Bool := match i with
  | 0 => true
  | j + 1 => match l[j]? with
    | some (some (.long _)) => false
    | some (some (.double _)) => false
    | _ => true
def o_ist (nx i : Nat) : mOp := fun _ k l st h => match st with
  | .int x :: st => bif mFree l i && Nat.blt i l.length then k nx (l.set i (some (.int x))) st h else none
  | _ => none
def o_ast (nx i : Nat) : mOp := fun _ k l st h => match st with
  | .ref x :: st => bif mFree l i && Nat.blt i l.length then k nx (l.set i (some (.ref x))) st h else none
  | _ => none
def o_lst (nx i : Nat) : mOp := fun _ k l st h => match st with
  | .long x :: st => bif mFree l i && Nat.blt (i + 1) l.length then k nx ((l.set i (some (.long x))).set (i + 1) none) st h else none
  | _ => none
def o_inc (nx i : Nat) (n : Int32) : mOp := fun _ k l st h => match l[i]? with
  | some (some (.int x)) => bif mFree l i && Nat.blt i l.length then k nx (l.set i (some (.int (x + n)))) st h else none
  | _ => none
-- arithmetic
def o_ii (nx : Nat) (f : Int32 → Int32 → Int32) : mOp := fun _ k l st h => match st with
  | .int y :: .int x :: st => k nx l (.int (f x y) :: st) h
  | _ => none
def o_ll (nx : Nat) (f : Int64 → Int64 → Int64) : mOp := fun _ k l st h => match st with
  | .long y :: .long x :: st => k nx l (.long (f x y) :: st) h
  | _ => none
def o_rem (nx : Nat) : mOp := fun _ k l st h => match st with
  | .int y :: .int x :: st => if y = 0 then none else k nx l (.int (x - x / y * y) :: st) h
  | _ => none
def o_i2l (nx : Nat) : mOp := fun _ k l st h => match st with
  | .int x :: st => k nx l (.long x.toInt64 :: st) h
  | _ => none
def o_l2i (nx : Nat) : mOp := fun _ k l st h => match st with
  | .long x :: st => k nx l (.int x.toInt32 :: st) h
  | _ => none
def o_lcmp (nx : Nat) : mOp := fun _ k l st h => match st with
  | .long y :: .long x :: st => k nx l (.int (lg_cmp x y) :: st) h
  | _ => none
def o_dup (nx : Nat) : mOp := fun _ k l st h => match st with
  | .int x :: st => k nx l (.int x :: .int x :: st) h
  | .ref x :: st => k nx l (.ref x :: .ref x :: st) h
  | _ => none
def o_dup2 (nx : Nat) : mOp := fun _ k l st h => match st with
  | .int x :: .ref y :: st => k nx l (.int x :: .ref y :: .int x :: .ref y :: st) h
  | _ => none
-- branches
def o_goto (tg : Nat) : mOp := fun _ k l st h => k tg l st h
/-- locals forgotten -/
def mClr (l : mL) (cl : List Nat) : mL := cl.foldl (fun l i => l.set i none) l
/-- a jump back: what the loop's head doesn't know is forgotten -/
def o_back (tg : Nat) (cl : List Nat) : mOp := fun _ k l st h => k tg (mClr l cl) st h
/-- a comparison of two ints, by kind: 0 eq, 1 ne, 2 lt, 3 ge, 4 gt, 5 le -/
def mCmp (kd : Nat) (x y : Int32) : Prop := match kd with
  | 0 => x = y
  | 1 => ¬ x = y
  | 2 => x < y
  | 3 => y ≤ x
  | 4 => y < x
  | _ => x ≤ y
def o_eq (nx tg : Nat) : mOp := fun _ k l st h => match st with
  | .int y :: .int x :: st => if x = y then k tg l st h else k nx l st h
  | _ => none
def o_ne (nx tg : Nat) : mOp := fun _ k l st h => match st with
  | .int y :: .int x :: st => if x = y then k nx l st h else k tg l st h
  | _ => none
def o_lt (nx tg : Nat) : mOp := fun _ k l st h => match st with
  | .int y :: .int x :: st => if x < y then k tg l st h else k nx l st h
  | _ => none
def o_ge (nx tg : Nat) : mOp := fun _ k l st h => match st with
  | .int y :: .int x :: st => if y ≤ x then k tg l st h else k nx l st h
  | _ => none
def o_gt (nx tg : Nat) : mOp := fun _ k l st h => match st with
  | .int y :: .int x :: st => if y < x then k tg l st h else k nx l st h
  | _ => none
def o_le (nx tg : Nat) : mOp := fun _ k l st h => match st with
  | .int y :: .int x :: st => if x ≤ y then k tg l st h else k nx l st h
  | _ => none
def o_eq0 (nx tg : Nat) : mOp := fun _ k l st h => match st with
  | .int x :: st => if x = 0 then k tg l st h else k nx l st h
  | _ => none
def o_ne0 (nx tg : Nat) : mOp := fun _ k l st h => match st with
  | .int x :: st => if x = 0 then k nx l st h else k tg l st h
  | _ => none
def o_lt0 (nx tg : Nat) : mOp := fun _ k l st h => match st with
  | .int x :: st => if x < 0 then k tg l st h else k nx l st h
  | _ => none
def o_ge0 (nx tg : Nat) : mOp := fun _ k l st h => match st with
  | .int x :: st => if 0 ≤ x then k tg l st h else k nx l st h
  | _ => none
def o_gt0 (nx tg : Nat) : mOp := fun _ k l st h => match st with
  | .int x :: st => if 0 < x then k tg l st h else k nx l st h
  | _ => none
def o_le0 (nx tg : Nat) : mOp := fun _ k l st h => match st with
  | .int x :: st => if x ≤ 0 then k tg l st h else k nx l st h
  | _ => none
def o_nul (nx tg : Nat) : mOp := fun _ k l st h => match st with
  | .null :: st => k tg l st h
  | .ref _ :: st => k nx l st h
  | _ => none
def o_nnul (nx tg : Nat) : mOp := fun _ k l st h => match st with
  | .null :: st => k nx l st h
  | .ref _ :: st => k tg l st h
  | _ => none
/-- a table switch from 0 on -/
def o_tsw (tgs : List Nat) (df : Nat) : mOp := fun _ k l st h => match st with
  | .int x :: st => if x < 0 ∨ tgs.length ≤ x.toNatClampNeg then k df l st h else k (tgs.getD x.toNatClampNeg df) l st h
  | _ => none
-- fields
def o_gI (nx t f : Nat) : mOp := fun _ k l st h => match st with
  | .ref a :: st => if mTg h a = t then k nx l (.int (mI h a f) :: st) h else none
  | _ => none
def o_gP (nx t f : Nat) : mOp := fun _ k l st h => match st with
  | .ref a :: st => if mTg h a = t then k nx l (va_rf (mP h a f) :: st) h else none
  | _ => none
def o_pI (nx t f : Nat) : mOp := fun _ k l st h => match st with
  | .int x :: .ref a :: st => if mTg h a = t then k nx l st (wI h a f x) else none
  | _ => none
def o_pZ (nx t f : Nat) : mOp := fun _ k l st h => match st with
  | .int x :: .ref a :: st => if mTg h a = t ∧ (x = 0 ∨ x = 1) then k nx l st (wI h a f x) else none
  | _ => none
def o_pP (nx t f : Nat) : mOp := fun _ k l st h => match st with
  | .ref x :: .ref a :: st => if mTg h a = t then k nx l st (wP h a f (some x)) else none
  | _ => none
-- rows
def o_ial (nx : Nat) : mOp := fun _ k l st h => match st with
  | .int i :: .ref a :: st => if (mTg h a = 20 ∨ mTg h a = 30) ∧ ¬ i < 0 ∧ i.toNatClampNeg < mLn h a then k nx l (.int (mI h a i.toNatClampNeg) :: st) h else none
  | _ => none
def o_bal (nx : Nat) : mOp := fun _ k l st h => match st with
  | .int i :: .ref a :: st => if mTg h a = 21 ∧ ¬ i < 0 ∧ i.toNatClampNeg < mLn h a then k nx l (.int (mI h a i.toNatClampNeg) :: st) h else none
  | _ => none
def o_lal (nx : Nat) : mOp := fun _ k l st h => match st with
  | .int i :: .ref a :: st => if mTg h a = 22 ∧ ¬ i < 0 ∧ i.toNatClampNeg < mLn h a then k nx l (.long (mJ h a i.toNatClampNeg) :: st) h else none
  | _ => none
def o_aal (nx : Nat) : mOp := fun _ k l st h => match st with
  | .int i :: .ref a :: st => if (mTg h a = 23 ∨ mTg h a = 24 ∨ mTg h a = 25) ∧ ¬ i < 0 ∧ i.toNatClampNeg < mLn h a then k nx l (va_rf (mP h a i.toNatClampNeg) :: st) h else none
  | _ => none
def o_ias (nx : Nat) : mOp := fun _ k l st h => match st with
  | .int x :: .int i :: .ref a :: st => if mTg h a = 20 ∧ ¬ i < 0 ∧ i.toNatClampNeg < mLn h a then k nx l st (wI h a i.toNatClampNeg x) else none
  | _ => none
def o_bas (nx : Nat) : mOp := fun _ k l st h => match st with
  | .int x :: .int i :: .ref a :: st => if mTg h a = 21 ∧ (x = 0 ∨ x = 1) ∧ ¬ i < 0 ∧ i.toNatClampNeg < mLn h a then k nx l st (wI h a i.toNatClampNeg x) else none
  | _ => none
def o_las (nx : Nat) : mOp := fun _ k l st h => match st with
  | .long x :: .int i :: .ref a :: st => if mTg h a = 22 ∧ ¬ i < 0 ∧ i.toNatClampNeg < mLn h a then k nx l st (wJ h a i.toNatClampNeg x) else none
  | _ => none
/-- rows of references: 23 holds cells of tag 6, 24 cells of tag 7 -/
def o_aas (nx : Nat) : mOp := fun _ k l st h => match st with
  | .ref x :: .int i :: .ref a :: st => if ((mTg h a = 23 ∧ mTg h x = 6) ∨ (mTg h a = 24 ∧ mTg h x = 7)) ∧ ¬ i < 0 ∧ i.toNatClampNeg < mLn h a then k nx l st (wP h a i.toNatClampNeg (some x)) else none
  | _ => none
def o_aln (nx : Nat) : mOp := fun _ k l st h => match st with
  | .ref a :: st => if mTg h a = 20 ∨ mTg h a = 23 ∨ mTg h a = 30 then k nx l (.int (nI (mLn h a)) :: st) h else none
  | _ => none
-- what is made
def o_new (nx t n : Nat) : mOp := fun _ k l st h => k nx l (.ref (mTop h) :: st) (wN h t n)
def o_nwa (nx t : Nat) : mOp := fun _ k l st h => match st with
  | .int n :: st => if ¬ n < 0 ∧ n.toNatClampNeg ≤ 1000000 then k nx l (.ref (mTop h) :: st) (wN h t n.toNatClampNeg) else none
  | _ => none
def o_mna (nx : Nat) : mOp := fun _ k l st h => match st with
  | .int m :: .int n :: st => if (¬ n < 0 ∧ n.toNatClampNeg ≤ 1000000) ∧ ¬ m < 0 ∧ m.toNatClampNeg ≤ 1000000 then k nx l (.ref (mTop h) :: st) (wM h n.toNatClampNeg m.toNatClampNeg) else none
  | _ => none
-- calls and ends
def mCat (st : List Value) : Nat := (st.map fun v => v.category).sum
def o_obj (nx : Nat) : mOp := fun _ k l st h => match st with
  | .ref _ :: st => bif Nat.ble (mCat st) 8 then k nx l st h else none
  | _ => none
/-- a static method m of n arguments -/
def o_cS (nx m n : Nat) : mOp := fun c k l st h => bif Nat.ble (mCat (st.drop n)) 8 && Nat.ble n st.length then
    match c m (st.take n).reverse h with
    | some (r, h1) => k nx l (r.toList ++ st.drop n) h1
    | none => none
  else none
/-- a method m of an object of tag t, with n arguments -/
def o_cV (nx m n t : Nat) : mOp := fun c k l st h => match st.drop n with
  | .ref a :: rest => bif Nat.ble (mCat rest) 8 && Nat.ble n st.length then
      if mTg h a = t then
        match c m (.ref a :: (st.take n).reverse) h with
        | some (r, h1) => k nx l (r.toList ++ rest) h1
        | none => none
      else none
    else none
  | _ => none
/-- a constructor -/
def o_cI (nx m n : Nat) : mOp := fun c k l st h => match st.drop n with
  | .ref a :: rest => bif Nat.ble (mCat rest) 8 && Nat.ble n st.length then
      match c m (.ref a :: (st.take n).reverse) h with
      | some (r, h1) => k nx l (r.toList ++ rest) h1
      | none => none
    else none
  | _ => none
def o_ri : mOp := fun _ _ _ st h => match st with
  | [.int x] => some (some (.int x), h)
  | _ => none
def o_rz : mOp := fun _ _ _ st h => match st with
  | [.int x] => if x = 0 ∨ x = 1 then some (some (.int x), h) else none
  | _ => none
def o_rl : mOp := fun _ _ _ st h => match st with
  | [.long x] => some (some (.long x), h)
  | _ => none
def o_rv : mOp := fun _ _ _ st h => match st with
  | [] => some (none, h)
  | _ => none
/-- the locals with which a method begins: a long takes two places -/
def mEn : List Value → mL
  | [] => []
  | v :: vs => if v.category = 2 then some v :: none :: mEn vs else some v :: mEn vs
def mArgs (n : Nat) (vs : List Value) : mL := mEn vs ++ List.replicate (n - (mEn vs).length) none
