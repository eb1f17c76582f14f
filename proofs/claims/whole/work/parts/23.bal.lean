/-! ===== ballots of a node, rows of weights ===== -/
def Bal (c : Nat) : Prop := c = 9 ∨ c = 13 ∨ c = 17 ∨ c = 20
def RB (c : Nat) : Prop := c = 17 ∨ c = 20
def Cho (c : Nat) : Prop := c = 1 ∨ c = 2
theorem RB.b {c : Nat} (h : RB c) : Bal c := Or.inr (Or.inr h)
theorem Bal.n9 : Bal 9 := Or.inl rfl
theorem Bal.n13 : Bal 13 := Or.inr (Or.inl rfl)
theorem Bal.l {c : Nat} (h : Bal c) : c < 23 := by rcases h with rfl | rfl | rfl | rfl <;> decide
theorem Bal.t {c : Nat} (h : Bal c) : tgN c = 1 := by rcases h with rfl | rfl | rfl | rfl <;> rfl
theorem Cho.l {c : Nat} (h : Cho c) : c < 23 := by rcases h with rfl | rfl <;> decide
theorem Cho.t {c : Nat} (h : Cho c) : tgN c = 2 := by rcases h with rfl | rfl <;> rfl
/-- how many values ballots c have -/
def lnB (n c : Nat) : Nat := if c = 9 ∨ c = 13 then 90 else 90 * n
theorem Bal.v {c : Nat} (h : Bal c) : c + 2 < 23 ∧ tgN (c + 2) = 20 ∧ ptN c 1 = some (c + 2) := by rcases h with rfl | rfl | rfl | rfl <;> exact ⟨by decide, rfl, rfl⟩
theorem Bal.s {c : Nat} (h : Bal c) : c + 1 < 23 ∧ tgN (c + 1) = 20 ∧ ptN c 2 = some (c + 1) := by rcases h with rfl | rfl | rfl | rfl <;> exact ⟨by decide, rfl, rfl⟩
theorem Bal.lv {c n : Nat} (h : Bal c) : lnN n (c + 2) = lnB n c := by rcases h with rfl | rfl | rfl | rfl <;> rfl
theorem Bal.ls {c n : Nat} (h : Bal c) : lnN n (c + 1) = 30 := by rcases h with rfl | rfl | rfl | rfl <;> rfl
theorem row_l {j : Nat} (h : j < 41) : 12 + j < 54 := by omega
theorem row_t {j : Nat} (h : j < 41) : tgK (12 + j) = 20 := by
  unfold tgK
  split <;> first | rfl | omega
theorem row_n {n j : Nat} (h : j < 41) : lnK n (12 + j) = n := by
  unfold lnK
  split <;> first | rfl | omega
section BalR
variable {E : mE} {m pc nx : Nat} {l : mL} {st : List Value} {S : mS} {K : Option Value → mS → Prop}
theorem e_PBv {i c : Nat} (hop : mOps m pc = o_gP nx 1 1) (hi : i < eN E) (hc : Bal c) (e : ES E m nx l (.ref (aN E i (c + 2)) :: st) S K) : ES E m pc l (.ref (aN E i c) :: st) S K := e_PN hop hi hc.l hc.t hc.v.2.2 e
theorem e_PBs {i c : Nat} (hop : mOps m pc = o_gP nx 1 2) (hi : i < eN E) (hc : Bal c) (e : ES E m nx l (.ref (aN E i (c + 1)) :: st) S K) : ES E m pc l (.ref (aN E i c) :: st) S K := e_PN hop hi hc.l hc.t hc.s.2.2 e
theorem e_iaBv {i c : Nat} {j : Int32} (hop : mOps m pc = o_ial nx) (hi : i < eN E) (hc : Bal c) (hj : ¬ j < 0 ∧ j.toNatClampNeg < lnB (eN E) c) (e : ES E m nx l (.int (sN S i (c + 2) j.toNatClampNeg) :: st) S K) : ES E m pc l (.int j :: .ref (aN E i (c + 2)) :: st) S K := e_iaN hop hi hc.v.1 hc.v.2.1 (by rw [hc.lv]; exact hj) e
theorem e_iaBs {i c : Nat} {j : Int32} (hop : mOps m pc = o_ial nx) (hi : i < eN E) (hc : Bal c) (hj : ¬ j < 0 ∧ j.toNatClampNeg < 30) (e : ES E m nx l (.int (sN S i (c + 1) j.toNatClampNeg) :: st) S K) : ES E m pc l (.int j :: .ref (aN E i (c + 1)) :: st) S K := e_iaN hop hi hc.s.1 hc.s.2.1 (by rw [hc.ls]; exact hj) e
theorem e_waBv {i c : Nat} {j x : Int32} (hop : mOps m pc = o_ias nx) (hi : i < eN E) (hc : Bal c) (hj : ¬ j < 0 ∧ j.toNatClampNeg < lnB (eN E) c) (e : ES E m nx l st (uN S i (c + 2) j.toNatClampNeg x) K) : ES E m pc l (.int x :: .int j :: .ref (aN E i (c + 2)) :: st) S K := e_waN hop hi hc.v.1 hc.v.2.1 (by rw [hc.lv]; exact hj) e
theorem e_waBs {i c : Nat} {j x : Int32} (hop : mOps m pc = o_ias nx) (hi : i < eN E) (hc : Bal c) (hj : ¬ j < 0 ∧ j.toNatClampNeg < 30) (e : ES E m nx l st (uN S i (c + 1) j.toNatClampNeg x) K) : ES E m pc l (.int x :: .int j :: .ref (aN E i (c + 1)) :: st) S K := e_waN hop hi hc.s.1 hc.s.2.1 (by rw [hc.ls]; exact hj) e
theorem e_iaR {j : Nat} {i : Int32} (hop : mOps m pc = o_ial nx) (hr : j < 41) (hj : ¬ i < 0 ∧ i.toNatClampNeg < eN E) (e : ES E m nx l (.int (sK S (12 + j) i.toNatClampNeg) :: st) S K) : ES E m pc l (.int i :: .ref (aK E (12 + j)) :: st) S K := e_iaK hop (row_l hr) (row_t hr) (by rw [row_n hr]; exact hj) e
theorem e_waR {j : Nat} {i x : Int32} (hop : mOps m pc = o_ias nx) (hr : j < 41) (hj : ¬ i < 0 ∧ i.toNatClampNeg < eN E) (e : ES E m nx l st (uK S (12 + j) i.toNatClampNeg x) K) : ES E m pc l (.int x :: .int i :: .ref (aK E (12 + j)) :: st) S K := e_waK hop (row_l hr) (row_t hr) (by rw [row_n hr]; exact hj) e
end BalR
