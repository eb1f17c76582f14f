/-! ===== runs that end, without their fuel; by what is wanted of the end ===== -/
/-- from here on, with fuel enough, the run ends so -/
def Ev (m pc : Nat) (l : mL) (st : List Value) (h : mH) (o : mO) : Prop := ∃ N : Nat, ∀ n : Nat, N ≤ n → mEx n m pc l st h = some o
/-- from here on the run ends, with an answer and a heap of which K holds -/
def Ek (m pc : Nat) (l : mL) (st : List Value) (h : mH) (K : Option Value → mH → Prop) : Prop := ∃ (r : Option Value) (h' : mH), Ev m pc l st h (r, h') ∧ K r h'
theorem Ev.main {m pc : Nat} {l : mL} {st : List Value} {h : mH} {o : mO} (e : Ev m pc l st h o) : ∃ n, mEx n m pc l st h = some o := by
  obtain ⟨N, hN⟩ := e
  exact ⟨N, hN N (Nat.le_refl N)⟩
theorem Ev.go {m pc pc' : Nat} {l l' : mL} {st st' : List Value} {h h' : mH} {o : mO} (k : Nat) (he : ∀ n, mEx (n + k) m pc l st h = mEx n m pc' l' st' h') (e : Ev m pc' l' st' h' o) : Ev m pc l st h o := by
  obtain ⟨N, hN⟩ := e
  refine ⟨N + k, fun n hn => ?_⟩
  obtain ⟨j, rfl⟩ : ∃ j, n = j + k := ⟨n - k, by omega⟩
  rw [he j]
  exact hN j (by omega)
theorem Ek.mono {m pc : Nat} {l : mL} {st : List Value} {h : mH} {K K' : Option Value → mH → Prop} (e : Ek m pc l st h K) (hk : ∀ r h', K r h' → K' r h') : Ek m pc l st h K' := by
  obtain ⟨r, h', e, k⟩ := e
  exact ⟨r, h', e, hk r h' k⟩
/-- k steps that need no test -/
theorem Ek.go {m pc pc' : Nat} {l l' : mL} {st st' : List Value} {h h' : mH} {K : Option Value → mH → Prop} (k : Nat) (he : ∀ n, mEx (n + k) m pc l st h = mEx n m pc' l' st' h') (e : Ek m pc' l' st' h' K) : Ek m pc l st h K := by
  obtain ⟨r, h1, e, hk⟩ := e
  exact ⟨r, h1, Ev.go k he e, hk⟩
/-- k steps, the last of which tests P -/
theorem Ek.chk {m pc pc' : Nat} {l l' : mL} {st st' : List Value} {h h' : mH} {K : Option Value → mH → Prop} {P : Prop} [Decidable P] (k : Nat) (he : ∀ n, mEx (n + k) m pc l st h = if P then mEx n m pc' l' st' h' else none) (hP : P) (e : Ek m pc' l' st' h' K) : Ek m pc l st h K :=
  Ek.go k (fun n => by rw [he n, if_pos hP]) e
/-- k steps, the last of which tests that a divisor isn't 0 -/
theorem Ek.nch {m pc pc' : Nat} {l l' : mL} {st st' : List Value} {h h' : mH} {K : Option Value → mH → Prop} {P : Prop} [Decidable P] (k : Nat) (he : ∀ n, mEx (n + k) m pc l st h = if P then none else mEx n m pc' l' st' h') (hP : ¬ P) (e : Ek m pc' l' st' h' K) : Ek m pc l st h K :=
  Ek.go k (fun n => by rw [he n, if_neg hP]) e
/-- k steps, the last of which branches -/
theorem Ek.br {m pc pt pf : Nat} {l l1 l2 : mL} {st st1 st2 : List Value} {h h1 h2 : mH} {K : Option Value → mH → Prop} {P : Prop} [Decidable P] (k : Nat) (he : ∀ n, mEx (n + k) m pc l st h = if P then mEx n m pt l1 st1 h1 else mEx n m pf l2 st2 h2) (et : P → Ek m pt l1 st1 h1 K) (ef : ¬ P → Ek m pf l2 st2 h2 K) : Ek m pc l st h K := by
  by_cases hP : P
  · exact Ek.go k (fun n => by rw [he n, if_pos hP]) (et hP)
  · exact Ek.go k (fun n => by rw [he n, if_neg hP]) (ef hP)
/-- k steps, the last of which calls -/
theorem Ek.call {m pc pc' m' : Nat} {l l' : mL} {st : List Value} {h h1 : mH} {as rest : List Value} {K : Option Value → mH → Prop} (k : Nat) (he : ∀ n, mEx (n + (k + 1)) m pc l st h = match mEx n m' 0 (mArgs (mNl (mt m')) as) [] h1 with
      | some (r, h2) => mEx n m pc' l' (r.toList ++ rest) h2
      | none => none) (e : Ek m' 0 (mArgs (mNl (mt m')) as) [] h1 (fun r h2 => Ek m pc' l' (r.toList ++ rest) h2 K)) : Ek m pc l st h K := by
  obtain ⟨r, h2, ⟨N1, hN1⟩, r3, h3, ⟨N, hN⟩, hk⟩ := e
  refine ⟨r3, h3, ⟨N + N1 + (k + 1), fun n hn => ?_⟩, hk⟩
  obtain ⟨j, rfl⟩ : ∃ j, n = j + (k + 1) := ⟨n - (k + 1), by omega⟩
  rw [he j, hN1 j (by omega)]
  exact hN j (by omega)
/-- k steps, the last of which calls a method of an object whose tag is tested -/
theorem Ek.callT {m pc pc' m' : Nat} {l l' : mL} {st : List Value} {h h1 : mH} {as rest : List Value} {K : Option Value → mH → Prop} {P : Prop} [Decidable P] (k : Nat) (he : ∀ n, mEx (n + (k + 1)) m pc l st h = if P then (match mEx n m' 0 (mArgs (mNl (mt m')) as) [] h1 with
      | some (r, h2) => mEx n m pc' l' (r.toList ++ rest) h2
      | none => none) else none) (hP : P) (e : Ek m' 0 (mArgs (mNl (mt m')) as) [] h1 (fun r h2 => Ek m pc' l' (r.toList ++ rest) h2 K)) : Ek m pc l st h K :=
  Ek.call k (fun n => by rw [he n, if_pos hP]) e
/-- k steps, the last of which ends the method -/
theorem Ek.ret {m pc : Nat} {l : mL} {st : List Value} {h h' : mH} {r : Option Value} {K : Option Value → mH → Prop} (k : Nat) (he : ∀ n, mEx (n + k) m pc l st h = some (r, h')) (hk : K r h') : Ek m pc l st h K := by
  refine ⟨r, h', ⟨k, fun n hn => ?_⟩, hk⟩
  obtain ⟨j, rfl⟩ : ∃ j, n = j + k := ⟨n - k, by omega⟩
  exact he j
theorem Ek.retZ {m pc : Nat} {l : mL} {st : List Value} {h h' : mH} {r : Option Value} {K : Option Value → mH → Prop} {P : Prop} [Decidable P] (k : Nat) (he : ∀ n, mEx (n + k) m pc l st h = if P then some (r, h') else none) (hP : P) (hk : K r h') : Ek m pc l st h K := Ek.ret k (fun n => by rw [he n, if_pos hP]) hk
theorem mSwOut {x : Int32} {n : Nat} (hn : n < 2 ^ 31) (h : ∀ j, j < n → ¬ x = nI j) : x < 0 ∨ n ≤ x.toNatClampNeg := by
  rcases pk_ix x hn with h1 | h1 | ⟨j, hj, rfl⟩
  · exact Or.inl h1
  · refine Or.inr ?_
    have h0 : ¬ x < 0 := fun q => by
      rw [Int32.lt_iff_toInt_lt, Int32.toInt_zero] at q
      rw [Int32.le_iff_toInt_le, nI_toInt hn] at h1
      omega
    have h2 := mClamp h0
    rw [Int32.le_iff_toInt_le, nI_toInt hn] at h1
    omega
  · exact absurd rfl (h j hj)
