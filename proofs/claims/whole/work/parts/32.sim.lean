/-! ===== class and reference side by side ===== -/
/-- the class's part of A, the reference's part of B -/
def mix (A B : mS) : mS := (A.1, A.2.1, A.2.2.1, A.2.2.2.1, A.2.2.2.2.1, A.2.2.2.2.2.1, B.2.2.2.2.2.2.1, B.2.2.2.2.2.2.2)
/-- a run of the class: it doesn't look at the reference's part -/
def CR (E : mE) (m pc : Nat) (l : mL) (A : mS) (r : Option Value) (A' : mS) : Prop := ∀ (B : mS) (K : Option Value → mS → Prop), K r (mix A' B) → ES E m pc l [] (mix A B) K
/-- a run of the reference: it doesn't look at the class's part -/
def RR (E : mE) (m pc : Nat) (l : mL) (B : mS) (r : Option Value) (B' : mS) : Prop := ∀ (A : mS) (K : Option Value → mS → Prop), K r (mix A B') → ES E m pc l [] (mix A B) K
section Mx
variable (A B : mS)
theorem mxK (v k : Nat) : sK (mix A B) v k = sK A v k := Eq.trans rfl rfl
theorem mxN (i c k : Nat) : sN (mix A B) i c k = sN A i c k := Eq.trans rfl rfl
theorem mxR (i j : Nat) : sR (mix A B) i j = sR A i j := Eq.trans rfl rfl
theorem mxQ (j : Nat) : sQ (mix A B) j = sQ A j := Eq.trans rfl rfl
theorem mxM (q k : Nat) : sM (mix A B) q k = sM A q k := Eq.trans rfl rfl
theorem mxU : sU (mix A B) = sU A := Eq.trans rfl rfl
theorem mxS (v k : Nat) : sS (mix A B) v k = sS B v k := Eq.trans rfl rfl
theorem mxW (k : Nat) : sW (mix A B) k = sW B k := Eq.trans rfl rfl
end Mx
-- what is read behind a written int
section Rd
variable (S : mS)
theorem rN (i c k : Nat) (x : Int32) (j d l : Nat) : sN (uN S i c k x) j d l = if d = c ∧ l = k ∧ j = i then x else sN S j d l := Eq.trans rfl rfl
theorem rNs (i c k : Nat) (x : Int32) : sN (uN S i c k x) i c k = x := if_pos ⟨rfl, rfl, rfl⟩
theorem rNo {i c k : Nat} {x : Int32} {j d l : Nat} (h : ¬ (d = c ∧ l = k ∧ j = i)) : sN (uN S i c k x) j d l = sN S j d l := if_neg h
theorem rK (v k : Nat) (x : Int32) (w l : Nat) : sK (uK S v k x) w l = if w = v ∧ l = k then x else sK S w l := Eq.trans rfl rfl
theorem rKs (v k : Nat) (x : Int32) : sK (uK S v k x) v k = x := if_pos ⟨rfl, rfl⟩
theorem rKo {v k : Nat} {x : Int32} {w l : Nat} (h : ¬ (w = v ∧ l = k)) : sK (uK S v k x) w l = sK S w l := if_neg h
theorem rS (v k : Nat) (x : Int32) (w l : Nat) : sS (uS S v k x) w l = if w = v ∧ l = k then x else sS S w l := Eq.trans rfl rfl
theorem rSs (v k : Nat) (x : Int32) : sS (uS S v k x) v k = x := if_pos ⟨rfl, rfl⟩
theorem rSo {v k : Nat} {x : Int32} {w l : Nat} (h : ¬ (w = v ∧ l = k)) : sS (uS S v k x) w l = sS S w l := if_neg h
theorem rM (q k : Nat) (x : Int32) (p l : Nat) : sM (uM S q k x) p l = if p = q ∧ l = k then x else sM S p l := Eq.trans rfl rfl
theorem rMs (q k : Nat) (x : Int32) : sM (uM S q k x) q k = x := if_pos ⟨rfl, rfl⟩
theorem rMo {q k : Nat} {x : Int32} {p l : Nat} (h : ¬ (p = q ∧ l = k)) : sM (uM S q k x) p l = sM S p l := if_neg h
end Rd
-- parts that a write leaves; writes go into mix
theorem fNK (S : mS) (v k : Nat) (x : Int32) (i2 c2 k2 : Nat) : sN (uK S v k x) i2 c2 k2 = sN S i2 c2 k2 := Eq.trans rfl rfl
theorem fRK (S : mS) (v k : Nat) (x : Int32) (i2 j2 : Nat) : sR (uK S v k x) i2 j2 = sR S i2 j2 := Eq.trans rfl rfl
theorem fQK (S : mS) (v k : Nat) (x : Int32) (j2 : Nat) : sQ (uK S v k x) j2 = sQ S j2 := Eq.trans rfl rfl
theorem fMK (S : mS) (v k : Nat) (x : Int32) (q2 k2 : Nat) : sM (uK S v k x) q2 k2 = sM S q2 k2 := Eq.trans rfl rfl
theorem fUK (S : mS) (v k : Nat) (x : Int32) : sU (uK S v k x) = sU S := Eq.trans rfl rfl
theorem fSK (S : mS) (v k : Nat) (x : Int32) (v2 k2 : Nat) : sS (uK S v k x) v2 k2 = sS S v2 k2 := Eq.trans rfl rfl
theorem fWK (S : mS) (v k : Nat) (x : Int32) (k2 : Nat) : sW (uK S v k x) k2 = sW S k2 := Eq.trans rfl rfl
theorem fKN (S : mS) (i c k : Nat) (x : Int32) (v2 k2 : Nat) : sK (uN S i c k x) v2 k2 = sK S v2 k2 := Eq.trans rfl rfl
theorem fRN (S : mS) (i c k : Nat) (x : Int32) (i2 j2 : Nat) : sR (uN S i c k x) i2 j2 = sR S i2 j2 := Eq.trans rfl rfl
theorem fQN (S : mS) (i c k : Nat) (x : Int32) (j2 : Nat) : sQ (uN S i c k x) j2 = sQ S j2 := Eq.trans rfl rfl
theorem fMN (S : mS) (i c k : Nat) (x : Int32) (q2 k2 : Nat) : sM (uN S i c k x) q2 k2 = sM S q2 k2 := Eq.trans rfl rfl
theorem fUN (S : mS) (i c k : Nat) (x : Int32) : sU (uN S i c k x) = sU S := Eq.trans rfl rfl
theorem fSN (S : mS) (i c k : Nat) (x : Int32) (v2 k2 : Nat) : sS (uN S i c k x) v2 k2 = sS S v2 k2 := Eq.trans rfl rfl
theorem fWN (S : mS) (i c k : Nat) (x : Int32) (k2 : Nat) : sW (uN S i c k x) k2 = sW S k2 := Eq.trans rfl rfl
theorem fKR (S : mS) (i j x : Nat) (v2 k2 : Nat) : sK (uR S i j x) v2 k2 = sK S v2 k2 := Eq.trans rfl rfl
theorem fNR (S : mS) (i j x : Nat) (i2 c2 k2 : Nat) : sN (uR S i j x) i2 c2 k2 = sN S i2 c2 k2 := Eq.trans rfl rfl
theorem fQR (S : mS) (i j x : Nat) (j2 : Nat) : sQ (uR S i j x) j2 = sQ S j2 := Eq.trans rfl rfl
theorem fMR (S : mS) (i j x : Nat) (q2 k2 : Nat) : sM (uR S i j x) q2 k2 = sM S q2 k2 := Eq.trans rfl rfl
theorem fUR (S : mS) (i j x : Nat) : sU (uR S i j x) = sU S := Eq.trans rfl rfl
theorem fSR (S : mS) (i j x : Nat) (v2 k2 : Nat) : sS (uR S i j x) v2 k2 = sS S v2 k2 := Eq.trans rfl rfl
theorem fWR (S : mS) (i j x : Nat) (k2 : Nat) : sW (uR S i j x) k2 = sW S k2 := Eq.trans rfl rfl
theorem fKQ (S : mS) (j : Nat) (x : Option Nat) (v2 k2 : Nat) : sK (uQ S j x) v2 k2 = sK S v2 k2 := Eq.trans rfl rfl
theorem fNQ (S : mS) (j : Nat) (x : Option Nat) (i2 c2 k2 : Nat) : sN (uQ S j x) i2 c2 k2 = sN S i2 c2 k2 := Eq.trans rfl rfl
theorem fRQ (S : mS) (j : Nat) (x : Option Nat) (i2 j2 : Nat) : sR (uQ S j x) i2 j2 = sR S i2 j2 := Eq.trans rfl rfl
theorem fMQ (S : mS) (j : Nat) (x : Option Nat) (q2 k2 : Nat) : sM (uQ S j x) q2 k2 = sM S q2 k2 := Eq.trans rfl rfl
theorem fUQ (S : mS) (j : Nat) (x : Option Nat) : sU (uQ S j x) = sU S := Eq.trans rfl rfl
theorem fSQ (S : mS) (j : Nat) (x : Option Nat) (v2 k2 : Nat) : sS (uQ S j x) v2 k2 = sS S v2 k2 := Eq.trans rfl rfl
theorem fWQ (S : mS) (j : Nat) (x : Option Nat) (k2 : Nat) : sW (uQ S j x) k2 = sW S k2 := Eq.trans rfl rfl
theorem fKM (S : mS) (q k : Nat) (x : Int32) (v2 k2 : Nat) : sK (uM S q k x) v2 k2 = sK S v2 k2 := Eq.trans rfl rfl
theorem fNM (S : mS) (q k : Nat) (x : Int32) (i2 c2 k2 : Nat) : sN (uM S q k x) i2 c2 k2 = sN S i2 c2 k2 := Eq.trans rfl rfl
theorem fRM (S : mS) (q k : Nat) (x : Int32) (i2 j2 : Nat) : sR (uM S q k x) i2 j2 = sR S i2 j2 := Eq.trans rfl rfl
theorem fQM (S : mS) (q k : Nat) (x : Int32) (j2 : Nat) : sQ (uM S q k x) j2 = sQ S j2 := Eq.trans rfl rfl
theorem fUM (S : mS) (q k : Nat) (x : Int32) : sU (uM S q k x) = sU S := Eq.trans rfl rfl
theorem fSM (S : mS) (q k : Nat) (x : Int32) (v2 k2 : Nat) : sS (uM S q k x) v2 k2 = sS S v2 k2 := Eq.trans rfl rfl
theorem fWM (S : mS) (q k : Nat) (x : Int32) (k2 : Nat) : sW (uM S q k x) k2 = sW S k2 := Eq.trans rfl rfl
theorem fKA (S : mS) (v2 k2 : Nat) : sK (uA S) v2 k2 = sK S v2 k2 := Eq.trans rfl rfl
theorem fNA (S : mS) (i2 c2 k2 : Nat) : sN (uA S) i2 c2 k2 = sN S i2 c2 k2 := Eq.trans rfl rfl
theorem fRA (S : mS) (i2 j2 : Nat) : sR (uA S) i2 j2 = sR S i2 j2 := Eq.trans rfl rfl
theorem fQA (S : mS) (j2 : Nat) : sQ (uA S) j2 = sQ S j2 := Eq.trans rfl rfl
theorem fSA (S : mS) (v2 k2 : Nat) : sS (uA S) v2 k2 = sS S v2 k2 := Eq.trans rfl rfl
theorem fWA (S : mS) (k2 : Nat) : sW (uA S) k2 = sW S k2 := Eq.trans rfl rfl
theorem fKS (S : mS) (v k : Nat) (x : Int32) (v2 k2 : Nat) : sK (uS S v k x) v2 k2 = sK S v2 k2 := Eq.trans rfl rfl
theorem fNS (S : mS) (v k : Nat) (x : Int32) (i2 c2 k2 : Nat) : sN (uS S v k x) i2 c2 k2 = sN S i2 c2 k2 := Eq.trans rfl rfl
theorem fRS (S : mS) (v k : Nat) (x : Int32) (i2 j2 : Nat) : sR (uS S v k x) i2 j2 = sR S i2 j2 := Eq.trans rfl rfl
theorem fQS (S : mS) (v k : Nat) (x : Int32) (j2 : Nat) : sQ (uS S v k x) j2 = sQ S j2 := Eq.trans rfl rfl
theorem fMS (S : mS) (v k : Nat) (x : Int32) (q2 k2 : Nat) : sM (uS S v k x) q2 k2 = sM S q2 k2 := Eq.trans rfl rfl
theorem fUS (S : mS) (v k : Nat) (x : Int32) : sU (uS S v k x) = sU S := Eq.trans rfl rfl
theorem fWS (S : mS) (v k : Nat) (x : Int32) (k2 : Nat) : sW (uS S v k x) k2 = sW S k2 := Eq.trans rfl rfl
theorem fKW (S : mS) (k : Nat) (x : Int64) (v2 k2 : Nat) : sK (uW S k x) v2 k2 = sK S v2 k2 := Eq.trans rfl rfl
theorem fNW (S : mS) (k : Nat) (x : Int64) (i2 c2 k2 : Nat) : sN (uW S k x) i2 c2 k2 = sN S i2 c2 k2 := Eq.trans rfl rfl
theorem fRW (S : mS) (k : Nat) (x : Int64) (i2 j2 : Nat) : sR (uW S k x) i2 j2 = sR S i2 j2 := Eq.trans rfl rfl
theorem fQW (S : mS) (k : Nat) (x : Int64) (j2 : Nat) : sQ (uW S k x) j2 = sQ S j2 := Eq.trans rfl rfl
theorem fMW (S : mS) (k : Nat) (x : Int64) (q2 k2 : Nat) : sM (uW S k x) q2 k2 = sM S q2 k2 := Eq.trans rfl rfl
theorem fUW (S : mS) (k : Nat) (x : Int64) : sU (uW S k x) = sU S := Eq.trans rfl rfl
theorem fSW (S : mS) (k : Nat) (x : Int64) (v2 k2 : Nat) : sS (uW S k x) v2 k2 = sS S v2 k2 := Eq.trans rfl rfl
theorem pK (A B : mS) (v k : Nat) (x : Int32) : uK (mix A B) v k x = mix (uK A v k x) B := Eq.trans rfl rfl
theorem pN (A B : mS) (i c k : Nat) (x : Int32) : uN (mix A B) i c k x = mix (uN A i c k x) B := Eq.trans rfl rfl
theorem pR (A B : mS) (i j x : Nat) : uR (mix A B) i j x = mix (uR A i j x) B := Eq.trans rfl rfl
theorem pQ (A B : mS) (j : Nat) (x : Option Nat) : uQ (mix A B) j x = mix (uQ A j x) B := Eq.trans rfl rfl
theorem pM (A B : mS) (q k : Nat) (x : Int32) : uM (mix A B) q k x = mix (uM A q k x) B := Eq.trans rfl rfl
theorem pA (A B : mS)  : uA (mix A B)  = mix (uA A ) B := Eq.trans rfl rfl
theorem pS (A B : mS) (v k : Nat) (x : Int32) : uS (mix A B) v k x = mix A (uS B v k x) := Eq.trans rfl rfl
theorem pW (A B : mS) (k : Nat) (x : Int64) : uW (mix A B) k x = mix A (uW B k x) := Eq.trans rfl rfl
/-! ===== what is told of copies to come ===== -/
/-- one of the first d is told so -/
def tdR (d : Nat) (f g b : Nat → Int32) (x k y : Int32) : Prop := ∃ j, j < d ∧ f j = x ∧ g j = k ∧ b j = y
def TC (A : mS) (d : Nat) (R : Int32 → Int32 → Int32 → Prop) : Prop := d ≤ 60 ∧ sK A 3 3 = nI d ∧ (∀ a b, a < d → b < d → sK A 4 a = sK A 4 b → a = b) ∧ ∀ x k y, tdR d (sK A 4) (sK A 5) (sK A 6) x k y ↔ R x k y
def TR (B : mS) (d : Nat) (R : Int32 → Int32 → Int32 → Prop) : Prop := d ≤ 60 ∧ sS B 0 45 = nI d ∧ (∀ a b, a < d → b < d → sS B 34 a = sS B 34 b → a = b) ∧ ∀ x k y, tdR d (sS B 34) (sS B 35) (sS B 36) x k y ↔ R x k y
section Told
variable {E : mE} {A B : mS} {d : Nat} {R : Int32 → Int32 → Int32 → Prop}
/-- the class finds a number -/
theorem c_find (h : TC A d R) (x : Int32) : (∃ p, p < d ∧ sK A 4 p = x ∧ CR E 23 0 [some (.ref (aK E 3)), some (.int x), none] A (some (.int (nI p))) A) ∨ ((∀ p, p < d → ¬ sK A 4 p = x) ∧ CR E 23 0 [some (.ref (aK E 3)), some (.int x), none] A (some (.int (-1))) A) := by
  obtain ⟨h60, hd, _, _⟩ := h
  have key : ∀ e j, j + e = d → (∀ p, p < j → ¬ sK A 4 p = x) → (∃ p, p < d ∧ sK A 4 p = x ∧ CR E 23 2 [some (.ref (aK E 3)), some (.int x), some (.int (nI j))] A (some (.int (nI p))) A) ∨ ((∀ p, p < d → ¬ sK A 4 p = x) ∧ CR E 23 2 [some (.ref (aK E 3)), some (.int x), some (.int (nI j))] A (some (.int (-1))) A) := by
    intro e
    induction e with
    | zero =>
      intro j hj hp
      have e : j = d := by omega
      subst e
      refine Or.inr ⟨hp, fun B K hK => T23_2 ⟨fun _ => hK, fun q => absurd ?_ q⟩⟩
      rw [mxK, hd]
      exact nI_le (Nat.le_refl _) (by omega)
    | succ e ih =>
      intro j hj hp
      by_cases hx : sK A 4 j = x
      · refine Or.inl ⟨j, by omega, hx, fun B K hK => T23_2 ⟨fun q => ?_, fun _ => ⟨in_n rfl (by omega) (by omega), fun _ => hK, fun q => absurd ?_ q⟩⟩⟩
        · rw [mxK, hd, le_n (by omega) (by omega)] at q
          omega
        · rw [mxK, nI_clamp (by omega)]
          exact hx
      · have st : ∀ r, CR E 23 2 [some (.ref (aK E 3)), some (.int x), some (.int (nI (j + 1)))] A r A → CR E 23 2 [some (.ref (aK E 3)), some (.int x), some (.int (nI j))] A r A := by
          intro r hr B K hK
          refine T23_2 ⟨fun q => ?_, fun _ => ⟨in_n rfl (by omega) (by omega), fun q => ?_, fun _ => ?_⟩⟩
          · rw [mxK, hd, le_n (by omega) (by omega)] at q
            omega
          · rw [mxK, nI_clamp (by omega)] at q
            exact absurd q hx
          · rw [nI_1]
            exact hr B K hK
        rcases ih (j + 1) (by omega) (fun p hp2 => by
          by_cases e : p = j
          · subst e
            exact hx
          · exact hp p (by omega)) with ⟨p, h1, h2, h3⟩ | ⟨h1, h2⟩
        · exact Or.inl ⟨p, h1, h2, st _ h3⟩
        · exact Or.inr ⟨h1, st _ h2⟩
  rcases key d 0 (by omega) (fun p hp => absurd hp (by omega)) with ⟨p, h1, h2, h3⟩ | ⟨h1, h2⟩
  · exact Or.inl ⟨p, h1, h2, fun B K hK => T23 (h3 B K hK)⟩
  · exact Or.inr ⟨h1, fun B K hK => T23 (h2 B K hK)⟩
/-- the class forgets the one at p -/
def cRem (A : mS) (d p : Nat) : mS := uK (uK (uK (uK A 3 3 (nI (d - 1))) 4 p (sK A 4 (d - 1))) 5 p (sK A 5 (d - 1))) 6 p (sK A 6 (d - 1))
theorem c_rem {p : Nat} (h : TC A d R) (hp : p < d) : CR E 25 0 [some (.ref (aK E 3)), some (.int (nI p))] A none (cRem A d p) ∧ TC (cRem A d p) (d - 1) (fun x k y => R x k y ∧ ¬ x = sK A 4 p) := by
  obtain ⟨h60, hd, hI, hR⟩ := h
  have hs : nI d - 1 = nI (d - 1) := by rw [il1, pk_sub (by omega)]
  constructor
  · intro B K hK
    have h1 : sK (mix A B) 3 3 - 1 = nI (d - 1) := by rw [mxK, hd, hs]
    refine T25 ⟨fun q => absurd q (nI_pos (by omega)), fun _ => ⟨fun _ => ?_, fun q => absurd ?_ q⟩⟩
    · rw [h1]
      rintro _ rfl
      refine ⟨in_n (k := d - 1) (rKs (mix A B) 3 3 _) (by omega) (by omega), in_n rfl (by omega) (by omega), ?_⟩
      have c1 : ∀ S : mS, ((sK (uK S 3 3 (nI (d - 1))) 3 3).toNatClampNeg) = d - 1 := fun S => by rw [rKs, nI_clamp (by omega)]
      have c2 : (nI p).toNatClampNeg = p := nI_clamp (by omega)
      rw [c1, c2]
      rintro _ rfl
      refine ⟨in_n (k := d - 1) (rKs (mix A B) 3 3 _) (by omega) (by omega), ?_⟩
      rintro _ rfl
      refine ⟨in_n (k := d - 1) (rKs (mix A B) 3 3 _) (by omega) (by omega), ?_⟩
      rintro _ rfl
      have c3 : ((sK (uK (uK (mix A B) 3 3 (nI (d - 1))) 4 p (sK (uK (mix A B) 3 3 (nI (d - 1))) 4 (d - 1))) 3 3).toNatClampNeg) = d - 1 := c1 (mix A B)
      have c4 : ((sK (uK (uK (uK (mix A B) 3 3 (nI (d - 1))) 4 p (sK (uK (mix A B) 3 3 (nI (d - 1))) 4 (d - 1))) 5 p (sK (uK (uK (mix A B) 3 3 (nI (d - 1))) 4 p (sK (uK (mix A B) 3 3 (nI (d - 1))) 4 (d - 1))) 5 (d - 1))) 3 3).toNatClampNeg) = d - 1 := c1 (mix A B)
      rw [c3, c4]
      exact hK
    · rw [mxK, hd]
      exact nI_lt hp (by omega)
  · have f4 : ∀ j, sK (cRem A d p) 4 j = if j = p then sK A 4 (d - 1) else sK A 4 j := fun j => by
      show (if (4 : Nat) = 4 ∧ j = p then _ else _) = _
      by_cases e : j = p
      · rw [if_pos ⟨rfl, e⟩, if_pos e]
      · rw [if_neg (fun q => e q.2), if_neg e]
        rfl
    have f5 : ∀ j, sK (cRem A d p) 5 j = if j = p then sK A 5 (d - 1) else sK A 5 j := fun j => by
      show (if (5 : Nat) = 5 ∧ j = p then _ else _) = _
      by_cases e : j = p
      · rw [if_pos ⟨rfl, e⟩, if_pos e]
      · rw [if_neg (fun q => e q.2), if_neg e]
        rfl
    have f6 : ∀ j, sK (cRem A d p) 6 j = if j = p then sK A 6 (d - 1) else sK A 6 j := fun j => by
      show (if (6 : Nat) = 6 ∧ j = p then _ else _) = _
      by_cases e : j = p
      · rw [if_pos ⟨rfl, e⟩, if_pos e]
      · rw [if_neg (fun q => e q.2), if_neg e]
        rfl
    refine ⟨by omega, rfl, fun a b ha hb => ?_, fun x k y => ⟨?_, ?_⟩⟩
    · rw [f4, f4]
      by_cases e1 : a = p <;> by_cases e2 : b = p
      · intro _; omega
      · rw [if_pos e1, if_neg e2]
        intro q
        have := hI _ _ (by omega) (by omega) q
        omega
      · rw [if_neg e1, if_pos e2]
        intro q
        have := hI _ _ (by omega) (by omega) q
        omega
      · rw [if_neg e1, if_neg e2]
        exact hI a b (by omega) (by omega)
    · rintro ⟨j, hj, h1, h2, h3⟩
      rw [f4] at h1
      rw [f5] at h2
      rw [f6] at h3
      by_cases e : j = p
      · rw [if_pos e] at h1 h2 h3
        refine ⟨(hR x k y).1 ⟨d - 1, by omega, h1, h2, h3⟩, fun q => ?_⟩
        have := hI (d - 1) p (by omega) hp (h1.trans q)
        omega
      · rw [if_neg e] at h1 h2 h3
        refine ⟨(hR x k y).1 ⟨j, by omega, h1, h2, h3⟩, fun q => ?_⟩
        exact e (hI j p (by omega) hp (h1.trans q))
    · rintro ⟨h1, h2⟩
      obtain ⟨j, hj, q1, q2, q3⟩ := (hR x k y).2 h1
      have e0 : ¬ j = p := fun q => h2 (by rw [← q1, q])
      by_cases e : j = d - 1
      · refine ⟨p, by omega, ?_, ?_, ?_⟩
        · rw [f4, if_pos rfl, ← e, q1]
        · rw [f5, if_pos rfl, ← e, q2]
        · rw [f6, if_pos rfl, ← e, q3]
      · refine ⟨j, by omega, ?_, ?_, ?_⟩
        · rw [f4, if_neg e0, q1]
        · rw [f5, if_neg e0, q2]
        · rw [f6, if_neg e0, q3]
theorem c_rem0 : CR E 25 0 [some (.ref (aK E 3)), some (.int (-1))] A none A := fun B K hK => T25 ⟨fun _ => hK, fun q => absurd (by decide) q⟩
end Told
