/-! ===== class and reference side by side ===== -/
/-- the class's part of A, the reference's part of B -/
def mix (A B : mS) : mS := (A.1, A.2.1, A.2.2.1, A.2.2.2.1, A.2.2.2.2.1, A.2.2.2.2.2.1, B.2.2.2.2.2.2.1, B.2.2.2.2.2.2.2)
/-- a run of the class: it doesn't look at the reference's part -/
def CR (E : mE) (m pc : Nat) (l : mL) (A : mS) (r : Option Value) (A' : mS) : Prop := ∀ (B : mS) (K : Option Value → mS → Prop), K r (mix A' B) → ES E m pc l [] (mix A B) K
/-- a run of the reference: it doesn't look at the class's part -/
def RR (E : mE) (m pc : Nat) (l : mL) (B : mS) (r : Option Value) (B' : mS) : Prop := ∀ (A : mS) (K : Option Value → mS → Prop), K r (mix A B') → ES E m pc l [] (mix A B) K
section Mx
variable (A B : mS)
theorem mxK (v k : Nat) : sK (mix A B) v k = sK A v k := rfl
theorem mxN (i c k : Nat) : sN (mix A B) i c k = sN A i c k := rfl
theorem mxR (i j : Nat) : sR (mix A B) i j = sR A i j := rfl
theorem mxQ (j : Nat) : sQ (mix A B) j = sQ A j := rfl
theorem mxM (q k : Nat) : sM (mix A B) q k = sM A q k := rfl
theorem mxU : sU (mix A B) = sU A := rfl
theorem mxS (v k : Nat) : sS (mix A B) v k = sS B v k := rfl
theorem mxW (k : Nat) : sW (mix A B) k = sW B k := rfl
end Mx
-- what is read behind a written int
section Rd
variable (S : mS)
theorem rN (i c k : Nat) (x : Int32) (j d l : Nat) : sN (uN S i c k x) j d l = if d = c ∧ l = k ∧ j = i then x else sN S j d l := rfl
theorem rNs (i c k : Nat) (x : Int32) : sN (uN S i c k x) i c k = x := if_pos ⟨rfl, rfl, rfl⟩
theorem rNo {i c k : Nat} {x : Int32} {j d l : Nat} (h : ¬ (d = c ∧ l = k ∧ j = i)) : sN (uN S i c k x) j d l = sN S j d l := if_neg h
theorem rK (v k : Nat) (x : Int32) (w l : Nat) : sK (uK S v k x) w l = if w = v ∧ l = k then x else sK S w l := rfl
theorem rKs (v k : Nat) (x : Int32) : sK (uK S v k x) v k = x := if_pos ⟨rfl, rfl⟩
theorem rKo {v k : Nat} {x : Int32} {w l : Nat} (h : ¬ (w = v ∧ l = k)) : sK (uK S v k x) w l = sK S w l := if_neg h
theorem rS (v k : Nat) (x : Int32) (w l : Nat) : sS (uS S v k x) w l = if w = v ∧ l = k then x else sS S w l := rfl
theorem rSs (v k : Nat) (x : Int32) : sS (uS S v k x) v k = x := if_pos ⟨rfl, rfl⟩
theorem rSo {v k : Nat} {x : Int32} {w l : Nat} (h : ¬ (w = v ∧ l = k)) : sS (uS S v k x) w l = sS S w l := if_neg h
theorem rM (q k : Nat) (x : Int32) (p l : Nat) : sM (uM S q k x) p l = if p = q ∧ l = k then x else sM S p l := rfl
theorem rMs (q k : Nat) (x : Int32) : sM (uM S q k x) q k = x := if_pos ⟨rfl, rfl⟩
theorem rMo {q k : Nat} {x : Int32} {p l : Nat} (h : ¬ (p = q ∧ l = k)) : sM (uM S q k x) p l = sM S p l := if_neg h
end Rd
/-! ===== what is told of copies to come ===== -/
/-- one of the first d is told so -/
def tdR (d : Nat) (f g b : Nat → Int32) (x k y : Int32) : Prop := ∃ j, j < d ∧ f j = x ∧ g j = k ∧ b j = y
def TC (A : mS) (d : Nat) (R : Int32 → Int32 → Int32 → Prop) : Prop := d ≤ 60 ∧ sK A 3 3 = nI d ∧ (∀ a b, a < d → b < d → sK A 4 a = sK A 4 b → a = b) ∧ ∀ x k y, tdR d (sK A 4) (sK A 5) (sK A 6) x k y ↔ R x k y
def TR (B : mS) (d : Nat) (R : Int32 → Int32 → Int32 → Prop) : Prop := d ≤ 60 ∧ sS B 0 45 = nI d ∧ (∀ a b, a < d → b < d → sS B 34 a = sS B 34 b → a = b) ∧ ∀ x k y, tdR d (sS B 34) (sS B 35) (sS B 36) x k y ↔ R x k y
section Told
variable {E : mE} {A B : mS} {d : Nat} {R : Int32 → Int32 → Int32 → Prop}
/-- the class finds a number -/
theorem c_find (h : TC A d R) (x : Int32) : (∃ p, p < d ∧ sK A 4 p = x ∧ CR E 23 0 [some (.ref (aK E 3)), some (.int x), none] A (some (.int (nI p))) A) ∨ ((∀ p, p < d → ¬ sK A 4 p = x) ∧ CR E 23 0 [some (.ref (aK E 3)), some (.int x), none] A (some (.int (-1))) A) := by
  obtain ⟨h60, hd, _, _⟩ := h
  have key : ∀ e j, j + e = d → (∀ p, p < j → ¬ sK A 4 p = x) → (∃ p, p < d ∧ sK A 4 p = x ∧ CR E 23 2 [some (.ref (aK E 3)), some (.int x), some (.int (nI j))] A (some (.int (nI p))) A) ∨ ((∀ p, p < d → ¬ sK A 4 p = x) ∧ CR E 23 2 [some (.ref (aK E 3)), some (.int x), some (.int (nI j))] A (some (.int (-1))) A) := by
    intro e
    induction e with
    | zero =>
      intro j hj hp
      have e : j = d := by omega
      subst e
      refine Or.inr ⟨hp, fun B K hK => T23_2 ⟨fun _ => hK, fun q => absurd ?_ q⟩⟩
      rw [mxK, hd]
      exact nI_le (Nat.le_refl _) (by omega)
    | succ e ih =>
      intro j hj hp
      by_cases hx : sK A 4 j = x
      · refine Or.inl ⟨j, by omega, hx, fun B K hK => T23_2 ⟨fun q => ?_, fun _ => ⟨in_n rfl (by omega) (by omega), fun _ => hK, fun q => absurd ?_ q⟩⟩⟩
        · rw [mxK, hd, le_n (by omega) (by omega)] at q
          omega
        · rw [mxK, nI_clamp (by omega)]
          exact hx
      · have st : ∀ r, CR E 23 2 [some (.ref (aK E 3)), some (.int x), some (.int (nI (j + 1)))] A r A → CR E 23 2 [some (.ref (aK E 3)), some (.int x), some (.int (nI j))] A r A := by
          intro r hr B K hK
          refine T23_2 ⟨fun q => ?_, fun _ => ⟨in_n rfl (by omega) (by omega), fun q => ?_, fun _ => ?_⟩⟩
          · rw [mxK, hd, le_n (by omega) (by omega)] at q
            omega
          · rw [mxK, nI_clamp (by omega)] at q
            exact absurd q hx
          · rw [nI_1]
            exact hr B K hK
        rcases ih (j + 1) (by omega) (fun p hp2 => by
          by_cases e : p = j
          · subst e
            exact hx
          · exact hp p (by omega)) with ⟨p, h1, h2, h3⟩ | ⟨h1, h2⟩
        · exact Or.inl ⟨p, h1, h2, st _ h3⟩
        · exact Or.inr ⟨h1, st _ h2⟩
  rcases key d 0 (by omega) (fun p hp => absurd hp (by omega)) with ⟨p, h1, h2, h3⟩ | ⟨h1, h2⟩
  · exact Or.inl ⟨p, h1, h2, fun B K hK => T23 (h3 B K hK)⟩
  · exact Or.inr ⟨h1, fun B K hK => T23 (h2 B K hK)⟩
/-- the class forgets the one at p -/
def cRem (A : mS) (d p : Nat) : mS := uK (uK (uK (uK A 3 3 (nI (d - 1))) 4 p (sK A 4 (d - 1))) 5 p (sK A 5 (d - 1))) 6 p (sK A 6 (d - 1))
theorem c_rem {p : Nat} (h : TC A d R) (hp : p < d) : CR E 25 0 [some (.ref (aK E 3)), some (.int (nI p))] A none (cRem A d p) ∧ TC (cRem A d p) (d - 1) (fun x k y => R x k y ∧ ¬ x = sK A 4 p) := by
  obtain ⟨h60, hd, hI, hR⟩ := h
  have hs : nI d - 1 = nI (d - 1) := by rw [il1, pk_sub (by omega)]
  constructor
  · intro B K hK
    have h1 : sK (mix A B) 3 3 - 1 = nI (d - 1) := by rw [mxK, hd, hs]
    refine T25 ⟨fun q => absurd q (nI_pos (by omega)), fun _ => ⟨fun _ => ?_, fun q => absurd ?_ q⟩⟩
    · rw [h1]
      rintro _ rfl
      refine ⟨in_n (k := d - 1) (rKs (mix A B) 3 3 _) (by omega) (by omega), in_n rfl (by omega) (by omega), ?_⟩
      have c1 : ∀ S : mS, ((sK (uK S 3 3 (nI (d - 1))) 3 3).toNatClampNeg) = d - 1 := fun S => by rw [rKs, nI_clamp (by omega)]
      have c2 : (nI p).toNatClampNeg = p := nI_clamp (by omega)
      rw [c1, c2]
      rintro _ rfl
      refine ⟨in_n (k := d - 1) (rKs (mix A B) 3 3 _) (by omega) (by omega), ?_⟩
      rintro _ rfl
      refine ⟨in_n (k := d - 1) (rKs (mix A B) 3 3 _) (by omega) (by omega), ?_⟩
      rintro _ rfl
      have c3 : ((sK (uK (uK (mix A B) 3 3 (nI (d - 1))) 4 p (sK (uK (mix A B) 3 3 (nI (d - 1))) 4 (d - 1))) 3 3).toNatClampNeg) = d - 1 := c1 (mix A B)
      have c4 : ((sK (uK (uK (uK (mix A B) 3 3 (nI (d - 1))) 4 p (sK (uK (mix A B) 3 3 (nI (d - 1))) 4 (d - 1))) 5 p (sK (uK (uK (mix A B) 3 3 (nI (d - 1))) 4 p (sK (uK (mix A B) 3 3 (nI (d - 1))) 4 (d - 1))) 5 (d - 1))) 3 3).toNatClampNeg) = d - 1 := c1 (mix A B)
      rw [c3, c4]
      exact hK
    · rw [mxK, hd]
      exact nI_lt hp (by omega)
  · have f4 : ∀ j, sK (cRem A d p) 4 j = if j = p then sK A 4 (d - 1) else sK A 4 j := fun j => by
      show (if (4 : Nat) = 4 ∧ j = p then _ else _) = _
      by_cases e : j = p
      · rw [if_pos ⟨rfl, e⟩, if_pos e]
      · rw [if_neg (fun q => e q.2), if_neg e]
        rfl
    have f5 : ∀ j, sK (cRem A d p) 5 j = if j = p then sK A 5 (d - 1) else sK A 5 j := fun j => by
      show (if (5 : Nat) = 5 ∧ j = p then _ else _) = _
      by_cases e : j = p
      · rw [if_pos ⟨rfl, e⟩, if_pos e]
      · rw [if_neg (fun q => e q.2), if_neg e]
        rfl
    have f6 : ∀ j, sK (cRem A d p) 6 j = if j = p then sK A 6 (d - 1) else sK A 6 j := fun j => by
      show (if (6 : Nat) = 6 ∧ j = p then _ else _) = _
      by_cases e : j = p
      · rw [if_pos ⟨rfl, e⟩, if_pos e]
      · rw [if_neg (fun q => e q.2), if_neg e]
        rfl
    refine ⟨by omega, rfl, fun a b ha hb => ?_, fun x k y => ⟨?_, ?_⟩⟩
    · rw [f4, f4]
      by_cases e1 : a = p <;> by_cases e2 : b = p
      · intro _; omega
      · rw [if_pos e1, if_neg e2]
        intro q
        have := hI _ _ (by omega) (by omega) q
        omega
      · rw [if_neg e1, if_pos e2]
        intro q
        have := hI _ _ (by omega) (by omega) q
        omega
      · rw [if_neg e1, if_neg e2]
        exact hI a b (by omega) (by omega)
    · rintro ⟨j, hj, h1, h2, h3⟩
      rw [f4] at h1
      rw [f5] at h2
      rw [f6] at h3
      by_cases e : j = p
      · rw [if_pos e] at h1 h2 h3
        refine ⟨(hR x k y).1 ⟨d - 1, by omega, h1, h2, h3⟩, fun q => ?_⟩
        have := hI (d - 1) p (by omega) hp (h1.trans q)
        omega
      · rw [if_neg e] at h1 h2 h3
        refine ⟨(hR x k y).1 ⟨j, by omega, h1, h2, h3⟩, fun q => ?_⟩
        exact e (hI j p (by omega) hp (h1.trans q))
    · rintro ⟨h1, h2⟩
      obtain ⟨j, hj, q1, q2, q3⟩ := (hR x k y).2 h1
      have e0 : ¬ j = p := fun q => h2 (by rw [← q1, q])
      by_cases e : j = d - 1
      · refine ⟨p, by omega, ?_, ?_, ?_⟩
        · rw [f4, if_pos rfl, ← e, q1]
        · rw [f5, if_pos rfl, ← e, q2]
        · rw [f6, if_pos rfl, ← e, q3]
      · refine ⟨j, by omega, ?_, ?_, ?_⟩
        · rw [f4, if_neg e0, q1]
        · rw [f5, if_neg e0, q2]
        · rw [f6, if_neg e0, q3]
theorem c_rem0 : CR E 25 0 [some (.ref (aK E 3)), some (.int (-1))] A none A := fun B K hK => T25 ⟨fun _ => hK, fun q => absurd (by decide) q⟩
end Told
