/-! ===== the state of class and reference, apart from where it lies ===== -/
/-- ints of the class's fixed cells; of node i's cells; which ballots are present and next; slots; messages' ints; how many are made; the reference's ints, its longs -/
abbrev mS : Type := (Nat → Nat → Int32) × (Nat → Nat → Nat → Int32) × (Nat → Nat → Nat) × (Nat → Option Nat) × (Nat → Nat → Int32) × Nat × (Nat → Nat → Int32) × (Nat → Int64)
def sK (S : mS) (v k : Nat) : Int32 := S.1 v k
def sN (S : mS) (i c k : Nat) : Int32 := S.2.1 i c k
def sR (S : mS) (i j : Nat) : Nat := S.2.2.1 i j
def sQ (S : mS) (j : Nat) : Option Nat := S.2.2.2.1 j
def sM (S : mS) (q k : Nat) : Int32 := S.2.2.2.2.1 q k
def sU (S : mS) : Nat := S.2.2.2.2.2.1
def sS (S : mS) (v k : Nat) : Int32 := S.2.2.2.2.2.2.1 v k
def sW (S : mS) (k : Nat) : Int64 := S.2.2.2.2.2.2.2 k
def up3 {α : Type} (f : Nat → Nat → Nat → α) (a b c : Nat) (v : α) : Nat → Nat → Nat → α := fun x y z => if y = b ∧ z = c ∧ x = a then v else f x y z
def uK (S : mS) (v k : Nat) (x : Int32) : mS := (up2 S.1 v k x, S.2)
def uN (S : mS) (i c k : Nat) (x : Int32) : mS := (S.1, up3 S.2.1 i c k x, S.2.2)
def uR (S : mS) (i j : Nat) (x : Nat) : mS := (S.1, S.2.1, up2 S.2.2.1 i j x, S.2.2.2)
def uQ (S : mS) (j : Nat) (q : Option Nat) : mS := (S.1, S.2.1, S.2.2.1, up1 S.2.2.2.1 j q, S.2.2.2.2)
def uM (S : mS) (q k : Nat) (x : Int32) : mS := (S.1, S.2.1, S.2.2.1, S.2.2.2.1, up2 S.2.2.2.2.1 q k x, S.2.2.2.2.2)
/-- one message more, of zeros -/
def uA (S : mS) : mS := (S.1, S.2.1, S.2.2.1, S.2.2.2.1, up1 S.2.2.2.2.1 S.2.2.2.2.2.1 (fun _ => 0), S.2.2.2.2.2.1 + 1, S.2.2.2.2.2.2)
def uS (S : mS) (v k : Nat) (x : Int32) : mS := (S.1, S.2.1, S.2.2.1, S.2.2.2.1, S.2.2.2.2.1, S.2.2.2.2.2.1, up2 S.2.2.2.2.2.2.1 v k x, S.2.2.2.2.2.2.2)
def uW (S : mS) (k : Nat) (x : Int64) : mS := (S.1, S.2.1, S.2.2.1, S.2.2.2.1, S.2.2.2.2.1, S.2.2.2.2.2.1, S.2.2.2.2.2.2.1, up1 S.2.2.2.2.2.2.2 k x)
/-- base, nodes, the script's place, its length, its ints -/
abbrev mE : Type := Nat × Nat × Nat × Nat × (Nat → Int32)
def eB (E : mE) : Nat := E.1
def eN (E : mE) : Nat := E.2.1
def eb (E : mE) : Nat := E.2.2.1
def eL (E : mE) : Nat := E.2.2.2.1
def ex (E : mE) : Nat → Int32 := E.2.2.2.2
def aK (E : mE) (v : Nat) : Nat := eB E + v
def aN (E : mE) (i c : Nat) : Nat := eB E + 54 + 23 * i + c
def aS (E : mE) (v : Nat) : Nat := eB E + 54 + 23 * eN E + v
def aM (E : mE) (q : Nat) : Nat := eB E + 54 + 23 * eN E + 40 + q
/-- tags, lengths and fixed references of the class's fixed cells -/
def tgK (v : Nat) : Nat := match v with
  | 0 => 11
  | 1 => 5
  | 2 => 23
  | 3 => 10
  | 7 => 4
  | 9 => 9
  | 11 => 25
  | 53 => 24
  | _ => 20
def lnK (n v : Nat) : Nat := match v with
  | 0 => 12
  | 1 => 3
  | 2 => 12000
  | 3 => 4
  | 4 => 60
  | 5 => 60
  | 6 => 60
  | 7 => 2
  | 8 => 1200
  | 9 => 4
  | 10 => 41
  | 11 => 41
  | _ => n
def ptK (v f : Nat) : Option Nat := match v, f with
  | 0, 0 => some 9
  | 0, 1 => some 53
  | 0, 2 => some 1
  | 0, 3 => some 3
  | 0, 4 => some 7
  | 1, 0 => some 2
  | 3, 0 => some 4
  | 3, 1 => some 5
  | 3, 2 => some 6
  | 7, 0 => some 8
  | 9, 2 => some 11
  | 9, 3 => some 10
  | _, _ => none
def tgN (c : Nat) : Nat := match c with
  | 0 => 7
  | 1 => 2
  | 2 => 2
  | 4 => 21
  | 5 => 3
  | 9 => 1
  | 12 => 8
  | 13 => 1
  | 16 => 6
  | 17 => 1
  | 20 => 1
  | _ => 20
def lnN (n c : Nat) : Nat := match c with
  | 0 => 18
  | 1 => 2
  | 2 => 2
  | 3 => 3
  | 4 => 3
  | 5 => 3
  | 6 => 41
  | 7 => 41
  | 8 => 41
  | 9 => 4
  | 10 => 30
  | 11 => 90
  | 12 => 3
  | 13 => 4
  | 14 => 30
  | 15 => 90
  | 16 => 9
  | 17 => 4
  | 18 => 30
  | 19 => 90 * n
  | 20 => 4
  | 21 => 30
  | _ => 90 * n
/-- within a node: from cell c by field f -/
def ptN (c f : Nat) : Option Nat := match c, f with
  | 0, 5 => some 1
  | 0, 6 => some 2
  | 0, 9 => some 3
  | 0, 10 => some 4
  | 0, 11 => some 5
  | 0, 14 => some 9
  | 0, 15 => some 12
  | 0, 16 => some 16
  | 5, 0 => some 6
  | 5, 1 => some 7
  | 5, 2 => some 8
  | 9, 1 => some 11
  | 9, 2 => some 10
  | 12, 2 => some 13
  | 13, 1 => some 15
  | 13, 2 => some 14
  | 17, 1 => some 19
  | 17, 2 => some 18
  | 20, 1 => some 22
  | 20, 2 => some 21
  | _, _ => none
def tgS (v : Nat) : Nat := match v with
  | 0 => 12
  | 10 => 21
  | 13 => 21
  | 14 => 21
  | 15 => 21
  | 24 => 22
  | 33 => 21
  | 39 => 21
  | _ => 20
def lnS (v : Nat) : Nat := match v with
  | 0 => 53
  | 1 => 420
  | 12 => 30
  | 17 => 18000
  | 18 => 6000
  | 19 => 900
  | 20 => 900
  | 21 => 410
  | 22 => 410
  | 23 => 410
  | 24 => 410
  | 25 => 20000
  | 26 => 20000
  | 27 => 20000
  | 28 => 20000
  | 29 => 20000
  | 30 => 20000
  | 31 => 20000
  | 32 => 20000
  | 33 => 20000
  | 34 => 60
  | 35 => 60
  | 36 => 60
  | 37 => 1200
  | 38 => 36900
  | 39 => 36900
  | _ => 10
def ptS (f : Nat) : Option Nat := match f with
  | 4 => some 1
  | 5 => some 2
  | 6 => some 3
  | 7 => some 4
  | 8 => some 5
  | 9 => some 6
  | 10 => some 7
  | 11 => some 8
  | 12 => some 9
  | 13 => some 10
  | 14 => some 11
  | 15 => some 12
  | 16 => some 13
  | 17 => some 14
  | 18 => some 15
  | 19 => some 16
  | 20 => some 17
  | 21 => some 18
  | 22 => some 19
  | 23 => some 20
  | 24 => some 21
  | 25 => some 22
  | 26 => some 23
  | 27 => some 24
  | 28 => some 25
  | 29 => some 26
  | 30 => some 27
  | 31 => some 28
  | 32 => some 29
  | 33 => some 30
  | 34 => some 31
  | 35 => some 32
  | 36 => some 33
  | 42 => some 34
  | 43 => some 35
  | 44 => some 36
  | 49 => some 37
  | 51 => some 38
  | 52 => some 39
  | _ => none
/-- the heap holds the state -/
def HHp (E : mE) (h : mH) (S : mS) : Prop :=
  mTop h = aM E (sU S) ∧ eb E < eB E ∧ (1 ≤ eN E ∧ eN E ≤ 10) ∧
  (∀ v, v < 54 → mTg h (aK E v) = tgK v ∧ mLn h (aK E v) = lnK (eN E) v ∧ ∀ k, mI h (aK E v) k = sK S v k) ∧
  ((∀ v f t, ptK v f = some t → mP h (aK E v) f = some (aK E t)) ∧ (∀ j, j < 41 → mP h (aK E 11) j = some (aK E (12 + j))) ∧ (∀ j, j < eN E → mP h (aK E 53) j = some (aN E j 0)) ∧ (∀ j, j < 12000 → mP h (aK E 2) j = (sQ S j).map (aM E))) ∧
  (∀ i, i < eN E → ∀ c, c < 23 → mTg h (aN E i c) = tgN c ∧ mLn h (aN E i c) = lnN (eN E) c ∧ ∀ k, mI h (aN E i c) k = sN S i c k) ∧
  (∀ i, i < eN E → (∀ c f t, ptN c f = some t → mP h (aN E i c) f = some (aN E i t)) ∧ mP h (aN E i 0) 1 = some (aK E 9) ∧ mP h (aN E i 0) 12 = some (aN E i (sR S i 0)) ∧ mP h (aN E i 0) 13 = some (aN E i (sR S i 1)) ∧ (sR S i 0 = 17 ∨ sR S i 0 = 20) ∧ (sR S i 1 = 17 ∨ sR S i 1 = 20)) ∧
  (∀ v, v < 40 → mTg h (aS E v) = tgS v ∧ mLn h (aS E v) = lnS v ∧ ∀ k, mI h (aS E v) k = sS S v k) ∧
  ((∀ f t, ptS f = some t → mP h (aS E 0) f = some (aS E t)) ∧ ∀ k, mJ h (aS E 24) k = sW S k) ∧
  (∀ q, q < sU S → mTg h (aM E q) = 6 ∧ ∀ k, mI h (aM E q) k = sM S q k) ∧
  (mSl h ≤ 400000 + 9 * sU S ∧ mTg h (eb E) = 30 ∧ mLn h (eb E) = eL E ∧ mI h (eb E) = ex E) ∧
  ∀ j q, j < 12000 → sQ S j = some q → q < sU S
theorem HHp.tK {E : mE} {h : mH} {S : mS} (H : HHp E h S) {v : Nat} (hv : v < 54) : mTg h (aK E v) = tgK v := (H.2.2.2.1 v hv).1
theorem HHp.lK {E : mE} {h : mH} {S : mS} (H : HHp E h S) {v : Nat} (hv : v < 54) : mLn h (aK E v) = lnK (eN E) v := (H.2.2.2.1 v hv).2.1
theorem HHp.iK {E : mE} {h : mH} {S : mS} (H : HHp E h S) {v : Nat} (hv : v < 54) (k : Nat) : mI h (aK E v) k = sK S v k := (H.2.2.2.1 v hv).2.2 k
theorem HHp.tN {E : mE} {h : mH} {S : mS} (H : HHp E h S) {i c : Nat} (hi : i < eN E) (hc : c < 23) : mTg h (aN E i c) = tgN c := (H.2.2.2.2.2.1 i hi c hc).1
theorem HHp.lN {E : mE} {h : mH} {S : mS} (H : HHp E h S) {i c : Nat} (hi : i < eN E) (hc : c < 23) : mLn h (aN E i c) = lnN (eN E) c := (H.2.2.2.2.2.1 i hi c hc).2.1
theorem HHp.iN {E : mE} {h : mH} {S : mS} (H : HHp E h S) {i c : Nat} (hi : i < eN E) (hc : c < 23) (k : Nat) : mI h (aN E i c) k = sN S i c k := (H.2.2.2.2.2.1 i hi c hc).2.2 k
theorem HHp.tS {E : mE} {h : mH} {S : mS} (H : HHp E h S) {v : Nat} (hv : v < 40) : mTg h (aS E v) = tgS v := (H.2.2.2.2.2.2.2.1 v hv).1
theorem HHp.lS {E : mE} {h : mH} {S : mS} (H : HHp E h S) {v : Nat} (hv : v < 40) : mLn h (aS E v) = lnS v := (H.2.2.2.2.2.2.2.1 v hv).2.1
theorem HHp.iS {E : mE} {h : mH} {S : mS} (H : HHp E h S) {v : Nat} (hv : v < 40) (k : Nat) : mI h (aS E v) k = sS S v k := (H.2.2.2.2.2.2.2.1 v hv).2.2 k
theorem HHp.tM {E : mE} {h : mH} {S : mS} (H : HHp E h S) {q : Nat} (hq : q < sU S) : mTg h (aM E q) = 6 := (H.2.2.2.2.2.2.2.2.2.1 q hq).1
theorem HHp.iM {E : mE} {h : mH} {S : mS} (H : HHp E h S) {q : Nat} (hq : q < sU S) (k : Nat) : mI h (aM E q) k = sM S q k := (H.2.2.2.2.2.2.2.2.2.1 q hq).2 k
-- what a written int leaves
section SW
variable {E : mE} {h : mH} {S : mS}
theorem aK_ne_eb (H : HHp E h S) (v : Nat) : aK E v ≠ eb E := by have := H.2.1; unfold aK; omega
theorem HHp.wK (H : HHp E h S) {v k : Nat} {x : Int32} (hv : v < 54) : HHp E (wI h (aK E v) k x) (uK S v k x) := by
  obtain ⟨h1, h2, h3, h4, h5, h6, h7, h8, h9, h10, h11, h12⟩ := H
  refine ⟨h1, h2, h3, fun v' hv' => ⟨(h4 v' hv').1, (h4 v' hv').2.1, fun k' => ?_⟩, h5, fun i hi c hc => ⟨(h6 i hi c hc).1, (h6 i hi c hc).2.1, fun k' => ?_⟩, h7, fun v' hv' => ⟨(h8 v' hv').1, (h8 v' hv').2.1, fun k' => ?_⟩, h9, fun q hq => ⟨(h10 q hq).1, fun k' => ?_⟩, ⟨h11.1, h11.2.1, h11.2.2.1, funext fun k' => ?_⟩, h12⟩
  · rw [mI_wI, (h4 v' hv').2.2 k']
    show _ = if v' = v ∧ k' = k then x else sK S v' k'
    unfold aK
    by_cases e : v' = v ∧ k' = k
    · rw [if_pos e, if_pos ⟨by omega, e.2⟩]
    · rw [if_neg e, if_neg (fun q => e ⟨by omega, q.2⟩)]
  · rw [mI_wI, if_neg (fun q => by have := q.1; unfold aN aK at this; omega)]
    exact (h6 i hi c hc).2.2 k'
  · rw [mI_wI, if_neg (fun q => by have := q.1; unfold aS aK at this; omega)]
    exact (h8 v' hv').2.2 k'
  · rw [mI_wI, if_neg (fun q => by have := q.1; unfold aM aK at this; omega)]
    exact (h10 q hq).2 k'
  · rw [mI_wI, if_neg (fun q => by have := q.1; unfold aK at this; omega), h11.2.2.2]
theorem HHp.wN (H : HHp E h S) {i c k : Nat} {x : Int32} (hi : i < eN E) (hc : c < 23) : HHp E (wI h (aN E i c) k x) (uN S i c k x) := by
  obtain ⟨h1, h2, h3, h4, h5, h6, h7, h8, h9, h10, h11, h12⟩ := H
  refine ⟨h1, h2, h3, fun v' hv' => ⟨(h4 v' hv').1, (h4 v' hv').2.1, fun k' => ?_⟩, h5, fun i' hi' c' hc' => ⟨(h6 i' hi' c' hc').1, (h6 i' hi' c' hc').2.1, fun k' => ?_⟩, h7, fun v' hv' => ⟨(h8 v' hv').1, (h8 v' hv').2.1, fun k' => ?_⟩, h9, fun q hq => ⟨(h10 q hq).1, fun k' => ?_⟩, ⟨h11.1, h11.2.1, h11.2.2.1, funext fun k' => ?_⟩, h12⟩
  · rw [mI_wI, if_neg (fun q => by have := q.1; unfold aN aK at this; omega)]
    exact (h4 v' hv').2.2 k'
  · rw [mI_wI, (h6 i' hi' c' hc').2.2 k']
    show _ = if c' = c ∧ k' = k ∧ i' = i then x else sN S i' c' k'
    unfold aN
    by_cases e : c' = c ∧ k' = k ∧ i' = i
    · rw [if_pos e, if_pos ⟨by omega, e.2.1⟩]
    · rw [if_neg e, if_neg (fun q => e ⟨by have := q.1; omega, q.2, by have := q.1; omega⟩)]
  · rw [mI_wI, if_neg (fun q => by have := q.1; unfold aN aS at this; omega)]
    exact (h8 v' hv').2.2 k'
  · rw [mI_wI, if_neg (fun q => by have := q.1; unfold aN aM at this; omega)]
    exact (h10 q hq).2 k'
  · rw [mI_wI, if_neg (fun q => by have := q.1; unfold aN at this; omega), h11.2.2.2]
theorem HHp.wS (H : HHp E h S) {v k : Nat} {x : Int32} (hv : v < 40) : HHp E (wI h (aS E v) k x) (uS S v k x) := by
  obtain ⟨h1, h2, h3, h4, h5, h6, h7, h8, h9, h10, h11, h12⟩ := H
  refine ⟨h1, h2, h3, fun v' hv' => ⟨(h4 v' hv').1, (h4 v' hv').2.1, fun k' => ?_⟩, h5, fun i' hi' c' hc' => ⟨(h6 i' hi' c' hc').1, (h6 i' hi' c' hc').2.1, fun k' => ?_⟩, h7, fun v' hv' => ⟨(h8 v' hv').1, (h8 v' hv').2.1, fun k' => ?_⟩, h9, fun q hq => ⟨(h10 q hq).1, fun k' => ?_⟩, ⟨h11.1, h11.2.1, h11.2.2.1, funext fun k' => ?_⟩, h12⟩
  · rw [mI_wI, if_neg (fun q => by have := q.1; unfold aS aK at this; omega)]
    exact (h4 v' hv').2.2 k'
  · rw [mI_wI, if_neg (fun q => by have := q.1; unfold aS aN at this; omega)]
    exact (h6 i' hi' c' hc').2.2 k'
  · rw [mI_wI, (h8 v' hv').2.2 k']
    show _ = if v' = v ∧ k' = k then x else sS S v' k'
    unfold aS
    by_cases e : v' = v ∧ k' = k
    · rw [if_pos e, if_pos ⟨by omega, e.2⟩]
    · rw [if_neg e, if_neg (fun q => e ⟨by omega, q.2⟩)]
  · rw [mI_wI, if_neg (fun q => by have := q.1; unfold aS aM at this; omega)]
    exact (h10 q hq).2 k'
  · rw [mI_wI, if_neg (fun q => by have := q.1; unfold aS at this; omega), h11.2.2.2]
theorem HHp.wM (H : HHp E h S) {q k : Nat} {x : Int32} : HHp E (wI h (aM E q) k x) (uM S q k x) := by
  obtain ⟨h1, h2, h3, h4, h5, h6, h7, h8, h9, h10, h11, h12⟩ := H
  refine ⟨h1, h2, h3, fun v' hv' => ⟨(h4 v' hv').1, (h4 v' hv').2.1, fun k' => ?_⟩, h5, fun i' hi' c' hc' => ⟨(h6 i' hi' c' hc').1, (h6 i' hi' c' hc').2.1, fun k' => ?_⟩, h7, fun v' hv' => ⟨(h8 v' hv').1, (h8 v' hv').2.1, fun k' => ?_⟩, h9, fun q' hq' => ⟨(h10 q' hq').1, fun k' => ?_⟩, ⟨h11.1, h11.2.1, h11.2.2.1, funext fun k' => ?_⟩, h12⟩
  · rw [mI_wI, if_neg (fun q => by have := q.1; unfold aM aK at this; omega)]
    exact (h4 v' hv').2.2 k'
  · rw [mI_wI, if_neg (fun q => by have := q.1; unfold aM aN at this; omega)]
    exact (h6 i' hi' c' hc').2.2 k'
  · rw [mI_wI, if_neg (fun q => by have := q.1; unfold aS aM at this; omega)]
    exact (h8 v' hv').2.2 k'
  · rw [mI_wI, (h10 q' hq').2 k']
    show _ = if q' = q ∧ k' = k then x else sM S q' k'
    unfold aM
    by_cases e : q' = q ∧ k' = k
    · rw [if_pos e, if_pos ⟨by omega, e.2⟩]
    · rw [if_neg e, if_neg (fun q => e ⟨by omega, q.2⟩)]
  · rw [mI_wI, if_neg (fun q => by have := q.1; unfold aM at this; omega), h11.2.2.2]
theorem HHp.wL (H : HHp E h S) {k : Nat} {x : Int64} : HHp E (wJ h (aS E 24) k x) (uW S k x) := by
  obtain ⟨h1, h2, h3, h4, h5, h6, h7, h8, h9, h10, h11, h12⟩ := H
  refine ⟨h1, h2, h3, h4, h5, h6, h7, h8, ⟨h9.1, fun k' => ?_⟩, h10, h11, h12⟩
  rw [mJ_wJ, h9.2 k']
  show _ = if k' = k then x else sW S k'
  by_cases e : k' = k
  · rw [if_pos e, if_pos ⟨rfl, e⟩]
  · rw [if_neg e, if_neg (fun q => e q.2)]
/-- a slot gets a message -/
theorem HHp.wQ (H : HHp E h S) {j q : Nat} (hq : q < sU S) : HHp E (wP h (aK E 2) j (some (aM E q))) (uQ S j (some q)) := by
  obtain ⟨h1, h2, h3, h4, h5, h6, h7, h8, h9, h10, h11, h12⟩ := H
  refine ⟨h1, h2, h3, h4, ⟨fun v f t ht => ?_, fun j' hj' => ?_, fun j' hj' => ?_, fun j' hj' => ?_⟩, h6, fun i hi => ⟨fun c f t ht => ?_, ?_, ?_, ?_, (h7 i hi).2.2.2.2⟩, h8, ⟨fun f t ht => ?_, h9.2⟩, h10, h11, fun j' q' hj' hq' => ?_⟩
  · rw [mP_wP, if_neg (fun z => by
      have := z.1
      unfold aK at this
      have e : v = 2 := by omega
      rw [e] at ht
      simp [ptK] at ht)]
    exact h5.1 v f t ht
  · rw [mP_wP, if_neg (fun z => by have := z.1; unfold aK at this; omega)]
    exact h5.2.1 j' hj'
  · rw [mP_wP, if_neg (fun z => by have := z.1; unfold aK at this; omega)]
    exact h5.2.2.1 j' hj'
  · rw [mP_wP]
    show _ = (if j' = j then some q else sQ S j').map (aM E)
    by_cases e : j' = j
    · rw [if_pos ⟨rfl, e⟩, if_pos e]
      rfl
    · rw [if_neg (fun z => e z.2), if_neg e]
      exact h5.2.2.2 j' hj'
  · rw [mP_wP, if_neg (fun z => by have := z.1; unfold aK aN at this; omega)]
    exact (h7 i hi).1 c f t ht
  · rw [mP_wP, if_neg (fun z => by have := z.1; unfold aK aN at this; omega)]
    exact (h7 i hi).2.1
  · rw [mP_wP, if_neg (fun z => by have := z.1; unfold aK aN at this; omega)]
    exact (h7 i hi).2.2.1
  · rw [mP_wP, if_neg (fun z => by have := z.1; unfold aK aN at this; omega)]
    exact (h7 i hi).2.2.2.1
  · rw [mP_wP, if_neg (fun z => by have := z.1; unfold aK aS at this; omega)]
    exact h9.1 f t ht
  · have hq2 : (if j' = j then some q else sQ S j') = some q' := hq'
    by_cases e : j' = j
    · rw [if_pos e] at hq2
      cases hq2
      exact hq
    · rw [if_neg e] at hq2
      exact h12 j' q' hj' hq2
/-- a node's present or next ballots -/
theorem HHp.wR (H : HHp E h S) {i j c : Nat} (hi : i < eN E) (hj : j < 2) (hc : c = 17 ∨ c = 20) : HHp E (wP h (aN E i 0) (12 + j) (some (aN E i c))) (uR S i j c) := by
  obtain ⟨h1, h2, h3, h4, h5, h6, h7, h8, h9, h10, h11, h12⟩ := H
  refine ⟨h1, h2, h3, h4, ⟨fun v f t ht => ?_, fun j' hj' => ?_, fun j' hj' => ?_, fun j' hj' => ?_⟩, h6, fun i' hi' => ⟨fun c' f t ht => ?_, ?_, ?_, ?_, ?_, ?_⟩, h8, ⟨fun f t ht => ?_, h9.2⟩, h10, h11, h12⟩
  · rw [mP_wP, if_neg (fun z => by
      have := z.1
      unfold aK aN at this
      have : v ≥ 54 := by omega
      match v, this, ht with
      | v + 54, _, ht => simp [ptK] at ht)]
    exact h5.1 v f t ht
  · rw [mP_wP, if_neg (fun z => by have := z.1; unfold aK aN at this; omega)]
    exact h5.2.1 j' hj'
  · rw [mP_wP, if_neg (fun z => by have := z.1; unfold aK aN at this; omega)]
    exact h5.2.2.1 j' hj'
  · rw [mP_wP, if_neg (fun z => by have := z.1; unfold aK aN at this; omega)]
    exact h5.2.2.2 j' hj'
  · rw [mP_wP, if_neg (fun z => by
      have hz := z.1
      have hf := z.2
      unfold aN at hz
      have hc' : c' < 23 := by
        rcases Nat.lt_or_ge c' 23 with q | q
        · exact q
        · match c', q, ht with
          | c' + 23, _, ht => simp [ptN] at ht
      have e0 : c' = 0 := by omega
      subst e0
      subst hf
      rcases (by omega : j = 0 ∨ j = 1) with rfl | rfl <;> simp [ptN] at ht)]
    exact (h7 i' hi').1 c' f t ht
  · rw [mP_wP, if_neg (fun z => by have := z.2; omega)]
    exact (h7 i' hi').2.1
  · rw [mP_wP]
    show _ = some (aN E i' (if i' = i ∧ 0 = j then c else sR S i' 0))
    by_cases e : i' = i ∧ 0 = j
    · obtain ⟨rfl, rfl⟩ := e
      rw [if_pos ⟨rfl, rfl⟩, if_pos ⟨rfl, rfl⟩]
    · rw [if_neg e, if_neg (fun z => e ⟨by have := z.1; unfold aN at this; omega, by have := z.2; omega⟩)]
      exact (h7 i' hi').2.2.1
  · rw [mP_wP]
    show _ = some (aN E i' (if i' = i ∧ 1 = j then c else sR S i' 1))
    by_cases e : i' = i ∧ 1 = j
    · obtain ⟨rfl, rfl⟩ := e
      rw [if_pos ⟨rfl, rfl⟩, if_pos ⟨rfl, rfl⟩]
    · rw [if_neg e, if_neg (fun z => e ⟨by have := z.1; unfold aN at this; omega, by have := z.2; omega⟩)]
      exact (h7 i' hi').2.2.2.1
  · show (if i' = i ∧ 0 = j then c else sR S i' 0) = 17 ∨ (if i' = i ∧ 0 = j then c else sR S i' 0) = 20
    by_cases e : i' = i ∧ 0 = j
    · rw [if_pos e]; exact hc
    · rw [if_neg e]; exact (h7 i' hi').2.2.2.2.1
  · show (if i' = i ∧ 1 = j then c else sR S i' 1) = 17 ∨ (if i' = i ∧ 1 = j then c else sR S i' 1) = 20
    by_cases e : i' = i ∧ 1 = j
    · rw [if_pos e]; exact hc
    · rw [if_neg e]; exact (h7 i' hi').2.2.2.2.2
  · rw [mP_wP, if_neg (fun z => by have := z.1; unfold aS aN at this; omega)]
    exact h9.1 f t ht
/-- a message is made -/
theorem HHp.wA (H : HHp E h S) : HHp E (Jvm.Pilot.@@N@@.wN h 6 9) (uA S) := by
  obtain ⟨h1, h2, h3, h4, h5, h6, h7, h8, h9, h10, h11, h12⟩ := H
  have hK : ∀ v, v < 54 → aK E v ≠ mTop h := fun v hv => by rw [h1]; unfold aK aM; omega
  have hN : ∀ i, i < eN E → ∀ c, c < 23 → aN E i c ≠ mTop h := fun i hi c hc => by rw [h1]; unfold aN aM; omega
  have hS : ∀ v, v < 40 → aS E v ≠ mTop h := fun v hv => by rw [h1]; unfold aS aM; omega
  have hM : ∀ q, q < sU S → aM E q ≠ mTop h := fun q hq => by rw [h1]; unfold aM; omega
  have hb : eb E ≠ mTop h := by rw [h1]; unfold aM; omega
  refine ⟨by rw [mTop_wN, h1]; rfl, h2, h3, fun v hv => ?_, ⟨fun v f t ht => ?_, fun j hj => ?_, fun j hj => ?_, fun j hj => ?_⟩, fun i hi c hc => ?_, fun i hi => ⟨fun c f t ht => ?_, ?_, ?_, ?_, (h7 i hi).2.2.2.2⟩, fun v hv => ?_, ⟨fun f t ht => ?_, fun k => ?_⟩, fun q hq => ?_, ⟨?_, ?_, ?_, ?_⟩, fun j q hj hq => ?_⟩
  · rw [mTg_wN, if_neg (hK v hv), mLn_wN, if_neg (hK v hv), mI_wN, if_neg (hK v hv)]
    exact h4 v hv
  · rw [mP_wN, if_neg (hK v (by
      rcases Nat.lt_or_ge v 54 with q | q
      · exact q
      · match v, q, ht with
        | v + 54, _, ht => simp [ptK] at ht))]
    exact h5.1 v f t ht
  · rw [mP_wN, if_neg (hK 11 (by omega))]
    exact h5.2.1 j hj
  · rw [mP_wN, if_neg (hK 53 (by omega))]
    exact h5.2.2.1 j hj
  · rw [mP_wN, if_neg (hK 2 (by omega))]
    exact h5.2.2.2 j hj
  · rw [mTg_wN, if_neg (hN i hi c hc), mLn_wN, if_neg (hN i hi c hc), mI_wN, if_neg (hN i hi c hc)]
    exact h6 i hi c hc
  · rw [mP_wN, if_neg (hN i hi c (by
      rcases Nat.lt_or_ge c 23 with q | q
      · exact q
      · match c, q, ht with
        | c + 23, _, ht => simp [ptN] at ht))]
    exact (h7 i hi).1 c f t ht
  · rw [mP_wN, if_neg (hN i hi 0 (by omega))]
    exact (h7 i hi).2.1
  · rw [mP_wN, if_neg (hN i hi 0 (by omega))]
    exact (h7 i hi).2.2.1
  · rw [mP_wN, if_neg (hN i hi 0 (by omega))]
    exact (h7 i hi).2.2.2.1
  · rw [mTg_wN, if_neg (hS v hv), mLn_wN, if_neg (hS v hv), mI_wN, if_neg (hS v hv)]
    exact h8 v hv
  · rw [mP_wN, if_neg (hS 0 (by omega))]
    exact h9.1 f t ht
  · rw [mJ_wN, if_neg (hS 24 (by omega))]
    exact h9.2 k
  · have hq2 : q < sU S + 1 := hq
    by_cases e : q = sU S
    · subst e
      rw [mTg_wN, if_pos h1.symm, mI_wN, if_pos h1.symm]
      refine ⟨rfl, fun k => ?_⟩
      show (0 : Int32) = (if sU S = sU S then (fun _ => 0) else _) k
      rw [if_pos rfl]
    · rw [mTg_wN, if_neg (hM q (by omega)), mI_wN, if_neg (hM q (by omega))]
      refine ⟨(h10 q (by omega)).1, fun k => ?_⟩
      show _ = (if q = sU S then (fun _ => 0) else sM S q) k
      rw [if_neg e]
      exact (h10 q (by omega)).2 k
  · show mSl h + 9 ≤ 400000 + 9 * (sU S + 1)
    have := h11.1
    omega
  · rw [mTg_wN, if_neg hb]
    exact h11.2.1
  · rw [mLn_wN, if_neg hb]
    exact h11.2.2.1
  · rw [mI_wN, if_neg hb]
    exact h11.2.2.2
  · have := h12 j q hj hq
    show q < sU S + 1
    omega
end SW
