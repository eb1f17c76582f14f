/-! ===== numbers and bits ===== -/
theorem il0 : (0 : Int32) = nI 0 := rfl
theorem il1 : (1 : Int32) = nI 1 := rfl
theorem il2 : (2 : Int32) = nI 2 := rfl
theorem il3 : (3 : Int32) = nI 3 := rfl
theorem il6 : (6 : Int32) = nI 6 := rfl
theorem il10 : (10 : Int32) = nI 10 := rfl
theorem il30 : (30 : Int32) = nI 30 := rfl
theorem il41 : (41 : Int32) = nI 41 := rfl
theorem il90 : (90 : Int32) = nI 90 := rfl
/-- a place in range -/
theorem in_n {x : Int32} {k n : Nat} (e : x = nI k) (h : k < n) (hn : n < 2 ^ 31) : ¬ x < 0 ∧ x.toNatClampNeg < n := by
  subst e
  exact ⟨nI_pos (by omega), by rw [nI_clamp (by omega)]; exact h⟩
theorem cl_n {x : Int32} {k : Nat} (e : x = nI k) (h : k < 2 ^ 31) : x.toNatClampNeg = k := by
  subst e
  exact nI_clamp h
theorem le_n {a b : Nat} (ha : a < 2 ^ 31) (hb : b < 2 ^ 31) : nI a ≤ nI b ↔ a ≤ b := nI_leI ha hb
theorem ix_b (r z j k : Nat) : (nI r * nI z + nI j) * 3 + nI k = nI ((r * z + j) * 3 + k) := by rw [il3, pk_mul, nI_add, pk_mul, nI_add]
theorem ix_p {i h r s k : Nat} (hi : i < 10) (hh : h < 100) (hr : r < 30) (hs : s < 10) (hk : k < 3) : ((((2 * nI i + (nI h - nI h / 2 * 2)) * 30 + nI r) * 10 + nI s) * 3 + nI k) = nI (((((2 * i + h % 2) * 30 + r) * 10 + s) * 3 + k)) := by
  rw [il2, il3, il10, il30, pk_rem (by omega) (by omega) (by omega), pk_mul, nI_add, pk_mul, nI_add, pk_mul, nI_add, pk_mul, nI_add, Nat.mul_comm 2 i]
theorem ix_w (h s : Nat) : 10 * nI h + nI s = nI (10 * h + s) := by rw [il10, pk_mul, nI_add]
def bt (x : Int32) (i : Nat) : Bool := x.toBitVec.getLsbD i
theorem b_or (x y : Int32) (i : Nat) : bt (x ||| y) i = (bt x i || bt y i) := by unfold bt; rw [Int32.toBitVec_or, BitVec.getLsbD_or]
theorem b_and (x y : Int32) (i : Nat) : bt (x &&& y) i = (bt x i && bt y i) := by unfold bt; rw [Int32.toBitVec_and, BitVec.getLsbD_and]
theorem b_ext {x y : Int32} (h : ∀ i, i < 32 → bt x i = bt y i) : x = y := Int32.toBitVec_inj.mp (BitVec.eq_of_getLsbD_eq (fun i hi => h i hi))
theorem b_0 (i : Nat) : bt 0 i = false := BitVec.getLsbD_zero
theorem s_l : ∀ n, n < 32 → ((nI n &&& 31).toBitVec.smod 32).toNat = n := by decide +kernel
theorem b_shl (n : Nat) (hn : n < 32) (x : Int32) {i : Nat} (hi : i < 32) : bt (x <<< (nI n &&& 31)) i = (decide (n ≤ i) && bt x (i - n)) := by
  unfold bt
  rw [Int32.toBitVec_shiftLeft]
  show (x.toBitVec <<< ((nI n &&& 31).toBitVec.smod 32).toNat).getLsbD i = _
  rw [s_l n hn, BitVec.getLsbD_shiftLeft]
  rcases Nat.lt_or_ge i n with h | h
  · simp [h, Nat.not_le.mpr h]
  · simp [hi, h, Nat.not_lt.mpr h]
theorem b_sshr (n : Nat) (hn : n < 32) (x : Int32) {i : Nat} (hi : i < 32) : bt (x >>> (nI n &&& 31)) i = if n + i < 32 then bt x (n + i) else bt x 31 := by
  unfold bt
  rw [Int32.toBitVec_shiftRight]
  show (x.toBitVec.sshiftRight ((nI n &&& 31).toBitVec.smod 32).toNat).getLsbD i = _
  rw [s_l n hn, BitVec.getLsbD_sshiftRight, BitVec.msb_eq_getLsbD_last]
  simp [hi]
theorem b_one : ∀ i, i < 32 → bt 1 i = decide (i = 0) := by decide +kernel
theorem b_1shl {s i : Nat} (hs : s < 32) (hi : i < 32) : bt ((1 : Int32) <<< (nI s &&& 31)) i = decide (i = s) := by
  rw [b_shl s hs _ hi, b_one (i - s) (by omega)]
  by_cases h : i = s
  · subst h
    simp
  · rw [decide_eq_false h]
    by_cases h2 : s ≤ i
    · rw [decide_eq_true h2, decide_eq_false (by omega)]
      rfl
    · rw [decide_eq_false h2]
      rfl
/-- bit i of x, as the code asks for it -/
theorem b_test {x : Int32} {i : Nat} (hi : i < 31) : ((x >>> (nI i &&& 31)) &&& 1) = 1 ↔ bt x i = true := by
  constructor
  · intro h
    have h1 := congrArg (fun z => bt z 0) h
    simp only [b_and, b_one 0 (by omega), b_sshr i (by omega) x (show 0 < 32 by omega)] at h1
    rw [if_pos (by omega)] at h1
    simpa using h1
  · intro h
    apply b_ext
    intro j hj
    rw [b_and, b_one j hj, b_sshr i (by omega) x hj]
    by_cases e : j = 0
    · subst e
      rw [if_pos (by omega)]
      simp [h]
    · rw [decide_eq_false e, Bool.and_false]
/-- the bits of those below z of whom p holds -/
def vbits (p : Nat → Bool) : Nat → Int32
  | 0 => 0
  | s + 1 => if p s then vbits p s ||| ((1 : Int32) <<< (nI s &&& 31)) else vbits p s
theorem bt_vbits {p : Nat → Bool} : ∀ {z : Nat}, z ≤ 31 → ∀ i, i < 32 → bt (vbits p z) i = (decide (i < z) && p i)
  | 0, _, i, _ => by
    unfold vbits
    rw [b_0]
    simp
  | s + 1, hz, i, hi => by
    unfold vbits
    by_cases h : p s = true
    · rw [if_pos h, b_or, bt_vbits (by omega) i hi, b_1shl (by omega) hi]
      by_cases e : i = s
      · subst e
        simp [h]
      · by_cases e2 : i < s
        · simp [e, e2, Nat.lt_succ_of_lt e2]
        · simp [e, e2, show ¬ i < s + 1 by omega]
    · rw [if_neg h, bt_vbits (by omega) i hi]
      by_cases e : i = s
      · subst e
        simp [h]
      · by_cases e2 : i < s
        · simp [e2, Nat.lt_succ_of_lt e2]
        · simp [e2, show ¬ i < s + 1 by omega]
/-- weights of those below z of whom p holds -/
def wsum (p : Nat → Bool) (w : Nat → Int32) : Nat → Int32
  | 0 => 0
  | s + 1 => if p s then wsum p w s + w s else wsum p w s
def wsumL (p : Nat → Bool) (w : Nat → Int32) : Nat → Int64
  | 0 => 0
  | s + 1 => wsumL p w s + (if p s then w s else 0).toInt64
