/-! ===== what a run needs, method by method (0 to 35) ===== -/
/-- java/util/Arrays.fill([II)V, from 0 -/
set_option maxRecDepth 4000 in
theorem T0 {a1 : Nat} {a2 : Int32} {h : mH} {K : Option Value → mH → Prop} (H : (mTg h a1 = 20 ∨ mTg h a1 = 23 ∨ mTg h a1 = 30) ∧ (Ek 0 5 [some (.ref a1), some (.int a2), some (.int 0), some (.int (nI (mLn h a1)))] [] h K)) : Ek 0 0 [some (.ref a1), some (.int a2), none, none] [] h K := by
  have c1 := H.1
  refine Ek.chk 4 (fun n => rfl) c1 ?_
  replace H := H.2
  exact Ek.go 1 (fun n => rfl) H

/-- java/util/Arrays.fill([II)V, from 5 -/
set_option maxRecDepth 4000 in
theorem T0_5 {v0 : Nat} {v1 : Int32} {v2 : Int32} {v3 : Int32} {h : mH} {K : Option Value → mH → Prop} (H : (v3 ≤ v2 → (K none h)) ∧ (¬ v3 ≤ v2 → ((mTg h v0 = 20 ∧ ¬ v2 < 0 ∧ (v2.toNatClampNeg) < mLn h v0) ∧ (∀ h1, h1 = wI h v0 (v2.toNatClampNeg) v1 → (Ek 0 5 [some (.ref v0), some (.int v1), some (.int (v2 + 1)), some (.int v3)] [] h1 K))))) : Ek 0 5 [some (.ref v0), some (.int v1), some (.int v2), some (.int v3)] [] h K := by
  refine Ek.br 3 (fun n => rfl) (fun hc => ?_) (fun hc => ?_)
  · replace H := H.1 hc
    exact Ek.ret 1 (fun n => rfl) H
  · replace H := H.2 hc
    have c2 := H.1
    refine Ek.chk 4 (fun n => rfl) c2 ?_
    replace H := H.2
    let h1 : mH := wI h v0 (v2.toNatClampNeg) v1
    replace H := H h1 rfl
    show Ek _ _ _ _ h1 _
    exact Ek.go 2 (fun n => rfl) H

/-- RoundVotes$Choice.<init>()V, from 0 -/
set_option maxRecDepth 4000 in
theorem T1 {a0 : Nat} {h : mH} {K : Option Value → mH → Prop} (H : (mTg h a0 = 2) ∧ (∀ h1, h1 = wI h a0 0 0 → (∀ h3, h3 = wI h1 a0 1 (-1) → (K none h3)))) : Ek 1 0 [some (.ref a0)] [] h K := by
  have c2 := H.1
  refine Ek.chk 5 (fun n => rfl) c2 ?_
  replace H := H.2
  let h1 : mH := wI h a0 0 0
  replace H := H h1 rfl
  show Ek _ _ _ _ h1 _
  refine Ek.chk 3 (fun n => rfl) c2 ?_
  let h3 : mH := wI h1 a0 1 (-1)
  replace H := H h3 rfl
  show Ek _ _ _ _ h3 _
  exact Ek.ret 1 (fun n => rfl) H

/-- RoundVotes$Choice.isNone()Z, from 0 -/
set_option maxRecDepth 4000 in
theorem T2 {a0 : Nat} {h : mH} {K : Option Value → mH → Prop} (H : (mTg h a0 = 2) ∧ (((mI h a0 0) = 0 → (K (some (.int 1)) h)) ∧ (¬ (mI h a0 0) = 0 → (K (some (.int 0)) h)))) : Ek 2 0 [some (.ref a0)] [] h K := by
  have c1 := H.1
  refine Ek.chk 2 (fun n => rfl) c1 ?_
  replace H := H.2
  refine Ek.br 1 (fun n => rfl) (fun hc => ?_) (fun hc => ?_)
  · replace H := H.1 hc
    exact Ek.ret 3 (fun n => rfl) H
  · replace H := H.2 hc
    exact Ek.ret 2 (fun n => rfl) H

/-- RoundVotes$Choice.choose(II)V, from 0 -/
set_option maxRecDepth 4000 in
theorem T3 {a0 : Nat} {a1 : Int32} {a2 : Int32} {h : mH} {K : Option Value → mH → Prop} (H : (mTg h a0 = 2) ∧ (∀ h1, h1 = wI h a0 0 a1 → (∀ h3, h3 = wI h1 a0 1 a2 → (K none h3)))) : Ek 3 0 [some (.ref a0), some (.int a1), some (.int a2)] [] h K := by
  have c2 := H.1
  refine Ek.chk 3 (fun n => rfl) c2 ?_
  replace H := H.2
  let h1 : mH := wI h a0 0 a1
  replace H := H h1 rfl
  show Ek _ _ _ _ h1 _
  refine Ek.chk 3 (fun n => rfl) c2 ?_
  let h3 : mH := wI h1 a0 1 a2
  replace H := H h3 rfl
  show Ek _ _ _ _ h3 _
  exact Ek.ret 1 (fun n => rfl) H

/-- RoundVotes$Message.<init>()V, from 0 -/
set_option maxRecDepth 4000 in
theorem T4 {a0 : Nat} {h : mH} {K : Option Value → mH → Prop} (H : K none h) : Ek 4 0 [some (.ref a0)] [] h K := by
  exact Ek.ret 3 (fun n => rfl) H

/-- RoundVotes$Message.otherValue()I, from 0 -/
set_option maxRecDepth 4000 in
theorem T5 {a0 : Nat} {h : mH} {K : Option Value → mH → Prop} (H : (mTg h a0 = 6) ∧ (((mI h a0 4) = 0 → (K (some (.int ((mI h a0 5) + 1))) h)) ∧ (¬ (mI h a0 4) = 0 → (((mI h a0 5) = 0 → (K (some (.int 1)) h)) ∧ (¬ (mI h a0 5) = 0 → (K (some (.int 0)) h)))))) : Ek 5 0 [some (.ref a0)] [] h K := by
  have c1 := H.1
  refine Ek.chk 2 (fun n => rfl) c1 ?_
  replace H := H.2
  refine Ek.br 1 (fun n => rfl) (fun hc => ?_) (fun hc => ?_)
  · replace H := H.1 hc
    refine Ek.chk 2 (fun n => rfl) c1 ?_
    exact Ek.ret 3 (fun n => rfl) H
  · replace H := H.2 hc
    refine Ek.chk 2 (fun n => rfl) c1 ?_
    refine Ek.br 1 (fun n => rfl) (fun hc => ?_) (fun hc => ?_)
    · replace H := H.1 hc
      exact Ek.ret 3 (fun n => rfl) H
    · replace H := H.2 hc
      exact Ek.ret 2 (fun n => rfl) H

/-- RoundVotes$Message.copyFrom(LRoundVotes$Message;)V, from 0 -/
set_option maxRecDepth 4000 in
theorem T6 {a0 : Nat} {a1 : Nat} {h : mH} {K : Option Value → mH → Prop} (H : (mTg h a1 = 6) ∧ ((mTg h a0 = 6) ∧ (∀ h2, h2 = wI h a0 0 (mI h a1 0) → (∀ h4, h4 = wI h2 a0 1 (mI h2 a1 1) → (∀ h5, h5 = wI h4 a0 2 (mI h4 a1 2) → (∀ h6, h6 = wI h5 a0 3 (mI h5 a1 3) → (∀ h7, h7 = wI h6 a0 4 (mI h6 a1 4) → (∀ h8, h8 = wI h7 a0 5 (mI h7 a1 5) → (∀ h9, h9 = wI h8 a0 6 (mI h8 a1 6) → (K none h9)))))))))) : Ek 6 0 [some (.ref a0), some (.ref a1)] [] h K := by
  have c1 := H.1
  refine Ek.chk 3 (fun n => rfl) c1 ?_
  replace H := H.2
  have c3 := H.1
  refine Ek.chk 1 (fun n => rfl) c3 ?_
  replace H := H.2
  let h2 : mH := wI h a0 0 (mI h a1 0)
  replace H := H h2 rfl
  show Ek _ _ _ _ h2 _
  refine Ek.chk 3 (fun n => rfl) c1 ?_
  refine Ek.chk 1 (fun n => rfl) c3 ?_
  let h4 : mH := wI h2 a0 1 (mI h2 a1 1)
  replace H := H h4 rfl
  show Ek _ _ _ _ h4 _
  refine Ek.chk 3 (fun n => rfl) c1 ?_
  refine Ek.chk 1 (fun n => rfl) c3 ?_
  let h5 : mH := wI h4 a0 2 (mI h4 a1 2)
  replace H := H h5 rfl
  show Ek _ _ _ _ h5 _
  refine Ek.chk 3 (fun n => rfl) c1 ?_
  refine Ek.chk 1 (fun n => rfl) c3 ?_
  let h6 : mH := wI h5 a0 3 (mI h5 a1 3)
  replace H := H h6 rfl
  show Ek _ _ _ _ h6 _
  refine Ek.chk 3 (fun n => rfl) c1 ?_
  refine Ek.chk 1 (fun n => rfl) c3 ?_
  let h7 : mH := wI h6 a0 4 (mI h6 a1 4)
  replace H := H h7 rfl
  show Ek _ _ _ _ h7 _
  refine Ek.chk 3 (fun n => rfl) c1 ?_
  refine Ek.chk 1 (fun n => rfl) c3 ?_
  let h8 : mH := wI h7 a0 5 (mI h7 a1 5)
  replace H := H h8 rfl
  show Ek _ _ _ _ h8 _
  refine Ek.chk 3 (fun n => rfl) c1 ?_
  refine Ek.chk 1 (fun n => rfl) c3 ?_
  let h9 : mH := wI h8 a0 6 (mI h8 a1 6)
  replace H := H h9 rfl
  show Ek _ _ _ _ h9 _
  exact Ek.ret 1 (fun n => rfl) H

/-- RoundVotes$Ballots.<init>(I)V, from 0 -/
set_option maxRecDepth 4000 in
theorem T7 {a0 : Nat} {a1 : Int32} {h : mH} {K : Option Value → mH → Prop} (H : (¬ (30 : Int32) < 0 ∧ ((30 : Int32).toNatClampNeg) ≤ 1000000) ∧ (∀ h1, h1 = wN h 20 ((30 : Int32).toNatClampNeg) → ((mTg h1 a0 = 1) ∧ (∀ h3, h3 = wP h1 a0 2 (some ((mTop h))) → (∀ h5, h5 = wI h3 a0 3 (-1) → (∀ h6, h6 = wI h5 a0 0 a1 → ((¬ ((30 * a1) * 3) < 0 ∧ (((30 * a1) * 3).toNatClampNeg) ≤ 1000000) ∧ (∀ h7, h7 = wN h6 20 (((30 * a1) * 3).toNatClampNeg) → ((mTg h7 a0 = 1) ∧ (∀ h9, h9 = wP h7 a0 1 (some ((mTop h6))) → (∃ p11, mP h9 a0 1 = some p11 ∧ (Ek 0 0 [some (.ref p11), some (.int (-2)), none, none] [] h9 (fun r h13 => r = none ∧ (K none h13)))))))))))))) : Ek 7 0 [some (.ref a0), some (.int a1)] [] h K := by
  have c2 := H.1
  refine Ek.chk 5 (fun n => rfl) c2 ?_
  replace H := H.2
  let h1 : mH := wN h 20 ((30 : Int32).toNatClampNeg)
  replace H := H h1 rfl
  show Ek _ _ _ _ h1 _
  have c4 := H.1
  refine Ek.chk 1 (fun n => rfl) c4 ?_
  replace H := H.2
  let h3 : mH := wP h1 a0 2 (some ((mTop h)))
  replace H := H h3 rfl
  show Ek _ _ _ _ h3 _
  refine Ek.chk 3 (fun n => rfl) c4 ?_
  let h5 : mH := wI h3 a0 3 (-1)
  replace H := H h5 rfl
  show Ek _ _ _ _ h5 _
  refine Ek.chk 3 (fun n => rfl) c4 ?_
  let h6 : mH := wI h5 a0 0 a1
  replace H := H h6 rfl
  show Ek _ _ _ _ h6 _
  have c8 := H.1
  refine Ek.chk 7 (fun n => rfl) c8 ?_
  replace H := H.2
  let h7 : mH := wN h6 20 (((30 * a1) * 3).toNatClampNeg)
  replace H := H h7 rfl
  show Ek _ _ _ _ h7 _
  have c10 := H.1
  refine Ek.chk 1 (fun n => rfl) c10 ?_
  replace H := H.2
  let h9 : mH := wP h7 a0 1 (some ((mTop h6)))
  replace H := H h9 rfl
  show Ek _ _ _ _ h9 _
  refine Ek.chk 2 (fun n => rfl) c10 ?_
  obtain ⟨p11, e12, H⟩ := H
  show Ek _ _ _ (va_rf (mP h9 a0 1) :: _) _ _
  rw [e12]
  refine Ek.call 1 (fun n => rfl) ?_
  refine Ek.mono H ?_
  rintro _ h13 ⟨rfl, H⟩
  exact Ek.ret 1 (fun n => rfl) H

/-- RoundVotes$Ballots.holds(III)Z, from 0 -/
set_option maxRecDepth 4000 in
theorem T8 {a0 : Nat} {a1 : Int32} {a2 : Int32} {a3 : Int32} {h : mH} {K : Option Value → mH → Prop} (H : (mTg h a0 = 1) ∧ (∃ p2, mP h a0 1 = some p2 ∧ (((mTg h p2 = 20 ∨ mTg h p2 = 30) ∧ ¬ ((((a1 * (mI h a0 0)) + a2) * 3) + a3) < 0 ∧ (((((a1 * (mI h a0 0)) + a2) * 3) + a3).toNatClampNeg) < mLn h p2) ∧ (((mI h p2 (((((a1 * (mI h a0 0)) + a2) * 3) + a3).toNatClampNeg)) = (-2) → (K (some (.int 0)) h)) ∧ (¬ (mI h p2 (((((a1 * (mI h a0 0)) + a2) * 3) + a3).toNatClampNeg)) = (-2) → (K (some (.int 1)) h)))))) : Ek 8 0 [some (.ref a0), some (.int a1), some (.int a2), some (.int a3)] [] h K := by
  have c1 := H.1
  refine Ek.chk 2 (fun n => rfl) c1 ?_
  replace H := H.2
  obtain ⟨p2, e3, H⟩ := H
  show Ek _ _ _ (va_rf (mP h a0 1) :: _) _ _
  rw [e3]
  refine Ek.chk 3 (fun n => rfl) c1 ?_
  have c4 := H.1
  refine Ek.chk 8 (fun n => rfl) c4 ?_
  replace H := H.2
  refine Ek.br 2 (fun n => rfl) (fun hc => ?_) (fun hc => ?_)
  · replace H := H.1 hc
    exact Ek.ret 2 (fun n => rfl) H
  · replace H := H.2 hc
    exact Ek.ret 3 (fun n => rfl) H

/-- RoundVotes$Ballots.valueOf(III)I, from 0 -/
set_option maxRecDepth 4000 in
theorem T9 {a0 : Nat} {a1 : Int32} {a2 : Int32} {a3 : Int32} {h : mH} {K : Option Value → mH → Prop} (H : (mTg h a0 = 1) ∧ (∃ p2, mP h a0 1 = some p2 ∧ (((mTg h p2 = 20 ∨ mTg h p2 = 30) ∧ ¬ ((((a1 * (mI h a0 0)) + a2) * 3) + a3) < 0 ∧ (((((a1 * (mI h a0 0)) + a2) * 3) + a3).toNatClampNeg) < mLn h p2) ∧ (K (some (.int (mI h p2 (((((a1 * (mI h a0 0)) + a2) * 3) + a3).toNatClampNeg)))) h)))) : Ek 9 0 [some (.ref a0), some (.int a1), some (.int a2), some (.int a3)] [] h K := by
  have c1 := H.1
  refine Ek.chk 2 (fun n => rfl) c1 ?_
  replace H := H.2
  obtain ⟨p2, e3, H⟩ := H
  show Ek _ _ _ (va_rf (mP h a0 1) :: _) _ _
  rw [e3]
  refine Ek.chk 3 (fun n => rfl) c1 ?_
  have c4 := H.1
  refine Ek.chk 8 (fun n => rfl) c4 ?_
  replace H := H.2
  exact Ek.ret 1 (fun n => rfl) H

/-- RoundVotes$Ballots.sinceOf(I)I, from 0 -/
set_option maxRecDepth 4000 in
theorem T10 {a0 : Nat} {a1 : Int32} {h : mH} {K : Option Value → mH → Prop} (H : (mTg h a0 = 1) ∧ (∃ p2, mP h a0 2 = some p2 ∧ (((mTg h p2 = 20 ∨ mTg h p2 = 30) ∧ ¬ a1 < 0 ∧ (a1.toNatClampNeg) < mLn h p2) ∧ (K (some (.int (mI h p2 (a1.toNatClampNeg)))) h)))) : Ek 10 0 [some (.ref a0), some (.int a1)] [] h K := by
  have c1 := H.1
  refine Ek.chk 2 (fun n => rfl) c1 ?_
  replace H := H.2
  obtain ⟨p2, e3, H⟩ := H
  show Ek _ _ _ (va_rf (mP h a0 2) :: _) _ _
  rw [e3]
  have c4 := H.1
  refine Ek.chk 2 (fun n => rfl) c4 ?_
  replace H := H.2
  exact Ek.ret 1 (fun n => rfl) H

/-- RoundVotes$Ballots.put(IIIII)V, from 0 -/
set_option maxRecDepth 4000 in
theorem T11 {a0 : Nat} {a1 : Int32} {a2 : Int32} {a3 : Int32} {a4 : Int32} {a5 : Int32} {h : mH} {K : Option Value → mH → Prop} (H : (mTg h a0 = 1) ∧ (∃ p2, mP h a0 1 = some p2 ∧ ((mTg h p2 = 20 ∧ ¬ ((((a1 * (mI h a0 0)) + a2) * 3) + a3) < 0 ∧ (((((a1 * (mI h a0 0)) + a2) * 3) + a3).toNatClampNeg) < mLn h p2) ∧ (∀ h4, h4 = wI h p2 (((((a1 * (mI h a0 0)) + a2) * 3) + a3).toNatClampNeg) a4 → ((a3 = 0 → (∃ p6, mP h a0 2 = some p6 ∧ ((mTg h p6 = 20 ∧ ¬ a1 < 0 ∧ (a1.toNatClampNeg) < mLn h p6) ∧ (∀ h8, h8 = wI h4 p6 (a1.toNatClampNeg) a5 → ((a1 ≤ (mI h8 a0 3) → (K none h8)) ∧ (¬ a1 ≤ (mI h8 a0 3) → (∀ h10, h10 = wI h8 a0 3 a1 → (K none h10)))))))) ∧ (¬ a3 = 0 → ((a1 ≤ (mI h4 a0 3) → (K none h4)) ∧ (¬ a1 ≤ (mI h4 a0 3) → (∀ h11, h11 = wI h4 a0 3 a1 → (K none h11)))))))))) : Ek 11 0 [some (.ref a0), some (.int a1), some (.int a2), some (.int a3), some (.int a4), some (.int a5)] [] h K := by
  have c1 := H.1
  refine Ek.chk 2 (fun n => rfl) c1 ?_
  replace H := H.2
  obtain ⟨p2, e3, H⟩ := H
  show Ek _ _ _ (va_rf (mP h a0 1) :: _) _ _
  rw [e3]
  refine Ek.chk 3 (fun n => rfl) c1 ?_
  have c5 := H.1
  refine Ek.chk 9 (fun n => rfl) c5 ?_
  replace H := H.2
  let h4 : mH := wI h p2 (((((a1 * (mI h a0 0)) + a2) * 3) + a3).toNatClampNeg) a4
  replace H := H h4 rfl
  show Ek _ _ _ _ h4 _
  refine Ek.br 2 (fun n => rfl) (fun hc => ?_) (fun hc => ?_)
  · replace H := H.1 hc
    refine Ek.chk 2 (fun n => rfl) c1 ?_
    obtain ⟨p6, e7, H⟩ := H
    show Ek _ _ _ (va_rf (mP h a0 2) :: _) _ _
    rw [e7]
    have c9 := H.1
    refine Ek.chk 3 (fun n => rfl) c9 ?_
    replace H := H.2
    let h8 : mH := wI h4 p6 (a1.toNatClampNeg) a5
    replace H := H h8 rfl
    show Ek _ _ _ _ h8 _
    refine Ek.chk 3 (fun n => rfl) c1 ?_
    refine Ek.br 1 (fun n => rfl) (fun hc => ?_) (fun hc => ?_)
    · replace H := H.1 hc
      exact Ek.ret 1 (fun n => rfl) H
    · replace H := H.2 hc
      refine Ek.chk 3 (fun n => rfl) c1 ?_
      let h10 : mH := wI h8 a0 3 a1
      replace H := H h10 rfl
      show Ek _ _ _ _ h10 _
      exact Ek.ret 1 (fun n => rfl) H
  · replace H := H.2 hc
    refine Ek.chk 3 (fun n => rfl) c1 ?_
    refine Ek.br 1 (fun n => rfl) (fun hc => ?_) (fun hc => ?_)
    · replace H := H.1 hc
      exact Ek.ret 1 (fun n => rfl) H
    · replace H := H.2 hc
      refine Ek.chk 3 (fun n => rfl) c1 ?_
      let h11 : mH := wI h4 a0 3 a1
      replace H := H h11 rfl
      show Ek _ _ _ _ h11 _
      exact Ek.ret 1 (fun n => rfl) H

/-- RoundVotes$Ballots.votersFor(III)I, from 0 -/
set_option maxRecDepth 4000 in
theorem T12 {a0 : Nat} {a1 : Int32} {a2 : Int32} {a3 : Int32} {h : mH} {K : Option Value → mH → Prop} (H : Ek 12 6 [some (.ref a0), some (.int a1), some (.int a2), some (.int a3), some (.int 0), some (.int 0)] [] h K) : Ek 12 0 [some (.ref a0), some (.int a1), some (.int a2), some (.int a3), none, none] [] h K := by
  exact Ek.go 4 (fun n => rfl) H

/-- RoundVotes$Ballots.votersFor(III)I, from 6 -/
set_option maxRecDepth 4000 in
theorem T12_6 {v0 : Nat} {v1 : Int32} {v2 : Int32} {v3 : Int32} {v4 : Int32} {v5 : Int32} {h : mH} {K : Option Value → mH → Prop} (H : (mTg h v0 = 1) ∧ (((mI h v0 0) ≤ v5 → (K (some (.int v4)) h)) ∧ (¬ (mI h v0 0) ≤ v5 → (∃ p2, mP h v0 1 = some p2 ∧ (((mTg h p2 = 20 ∨ mTg h p2 = 30) ∧ ¬ ((((v1 * (mI h v0 0)) + v5) * 3) + v2) < 0 ∧ (((((v1 * (mI h v0 0)) + v5) * 3) + v2).toNatClampNeg) < mLn h p2) ∧ (((mI h p2 (((((v1 * (mI h v0 0)) + v5) * 3) + v2).toNatClampNeg)) = v3 → (Ek 12 6 [some (.ref v0), some (.int v1), some (.int v2), some (.int v3), some (.int (v4 ||| (1 <<< (v5 &&& 31)))), some (.int (v5 + 1))] [] h K)) ∧ (¬ (mI h p2 (((((v1 * (mI h v0 0)) + v5) * 3) + v2).toNatClampNeg)) = v3 → (Ek 12 6 [some (.ref v0), some (.int v1), some (.int v2), some (.int v3), some (.int v4), some (.int (v5 + 1))] [] h K)))))))) : Ek 12 6 [some (.ref v0), some (.int v1), some (.int v2), some (.int v3), some (.int v4), some (.int v5)] [] h K := by
  have c1 := H.1
  refine Ek.chk 3 (fun n => rfl) c1 ?_
  replace H := H.2
  refine Ek.br 1 (fun n => rfl) (fun hc => ?_) (fun hc => ?_)
  · replace H := H.1 hc
    exact Ek.ret 2 (fun n => rfl) H
  · replace H := H.2 hc
    refine Ek.callT 4 (fun n => rfl) c1 ?_
    refine Ek.chk 2 (fun n => rfl) c1 ?_
    obtain ⟨p2, e3, H⟩ := H
    show Ek _ _ _ (va_rf (mP h v0 1) :: _) _ _
    rw [e3]
    refine Ek.chk 3 (fun n => rfl) c1 ?_
    have c4 := H.1
    refine Ek.chk 8 (fun n => rfl) c4 ?_
    replace H := H.2
    refine Ek.ret 1 (fun n => rfl) ?_
    refine Ek.br 2 (fun n => rfl) (fun hc => ?_) (fun hc => ?_)
    · replace H := H.1 hc
      exact Ek.go 8 (fun n => rfl) H
    · replace H := H.2 hc
      exact Ek.go 2 (fun n => rfl) H

/-- RoundVotes$Ballots.clear()V, from 0 -/
set_option maxRecDepth 4000 in
theorem T13 {a0 : Nat} {h : mH} {K : Option Value → mH → Prop} (H : (mTg h a0 = 1) ∧ (Ek 13 16 [some (.ref a0), some (.int ((((mI h a0 3) + 1) * (mI h a0 0)) * 3)), some (.int 0)] [] h K)) : Ek 13 0 [some (.ref a0), none, none] [] h K := by
  have c1 := H.1
  refine Ek.chk 2 (fun n => rfl) c1 ?_
  replace H := H.2
  refine Ek.chk 4 (fun n => rfl) c1 ?_
  exact Ek.go 6 (fun n => rfl) H

/-- RoundVotes$Ballots.clear()V, from 16 -/
set_option maxRecDepth 4000 in
theorem T13_16 {v0 : Nat} {v1 : Int32} {v2 : Int32} {h : mH} {K : Option Value → mH → Prop} (H : (v1 ≤ v2 → ((mTg h v0 = 1) ∧ (∀ h1, h1 = wI h v0 3 (-1) → (K none h1)))) ∧ (¬ v1 ≤ v2 → ((mTg h v0 = 1) ∧ (∃ p4, mP h v0 1 = some p4 ∧ ((mTg h p4 = 20 ∧ ¬ v2 < 0 ∧ (v2.toNatClampNeg) < mLn h p4) ∧ (∀ h6, h6 = wI h p4 (v2.toNatClampNeg) (-2) → (Ek 13 16 [some (.ref v0), some (.int v1), some (.int (v2 + 1))] [] h6 K))))))) : Ek 13 16 [some (.ref v0), some (.int v1), some (.int v2)] [] h K := by
  refine Ek.br 3 (fun n => rfl) (fun hc => ?_) (fun hc => ?_)
  · replace H := H.1 hc
    have c2 := H.1
    refine Ek.chk 3 (fun n => rfl) c2 ?_
    replace H := H.2
    let h1 : mH := wI h v0 3 (-1)
    replace H := H h1 rfl
    show Ek _ _ _ _ h1 _
    exact Ek.ret 1 (fun n => rfl) H
  · replace H := H.2 hc
    have c3 := H.1
    refine Ek.chk 2 (fun n => rfl) c3 ?_
    replace H := H.2
    obtain ⟨p4, e5, H⟩ := H
    show Ek _ _ _ (va_rf (mP h v0 1) :: _) _ _
    rw [e5]
    have c7 := H.1
    refine Ek.chk 3 (fun n => rfl) c7 ?_
    replace H := H.2
    let h6 : mH := wI h p4 (v2.toNatClampNeg) (-2)
    replace H := H h6 rfl
    show Ek _ _ _ _ h6 _
    exact Ek.go 2 (fun n => rfl) H

/-- RoundVotes$Ballots.voters(II)I, from 0 -/
set_option maxRecDepth 4000 in
theorem T14 {a0 : Nat} {a1 : Int32} {a2 : Int32} {h : mH} {K : Option Value → mH → Prop} (H : Ek 14 5 [some (.ref a0), some (.int a1), some (.int a2), some (.int 0), some (.int 0)] [] h K) : Ek 14 0 [some (.ref a0), some (.int a1), some (.int a2), none, none] [] h K := by
  exact Ek.go 4 (fun n => rfl) H

/-- RoundVotes$Ballots.voters(II)I, from 5 -/
set_option maxRecDepth 4000 in
theorem T14_5 {v0 : Nat} {v1 : Int32} {v2 : Int32} {v3 : Int32} {v4 : Int32} {h : mH} {K : Option Value → mH → Prop} (H : (mTg h v0 = 1) ∧ (((mI h v0 0) ≤ v4 → (K (some (.int v3)) h)) ∧ (¬ (mI h v0 0) ≤ v4 → (∃ p2, mP h v0 1 = some p2 ∧ (((mTg h p2 = 20 ∨ mTg h p2 = 30) ∧ ¬ ((((v1 * (mI h v0 0)) + v4) * 3) + v2) < 0 ∧ (((((v1 * (mI h v0 0)) + v4) * 3) + v2).toNatClampNeg) < mLn h p2) ∧ (((mI h p2 (((((v1 * (mI h v0 0)) + v4) * 3) + v2).toNatClampNeg)) = (-2) → (Ek 14 5 [some (.ref v0), some (.int v1), some (.int v2), some (.int v3), some (.int (v4 + 1))] [] h K)) ∧ (¬ (mI h p2 (((((v1 * (mI h v0 0)) + v4) * 3) + v2).toNatClampNeg)) = (-2) → (Ek 14 5 [some (.ref v0), some (.int v1), some (.int v2), some (.int (v3 ||| (1 <<< (v4 &&& 31)))), some (.int (v4 + 1))] [] h K)))))))) : Ek 14 5 [some (.ref v0), some (.int v1), some (.int v2), some (.int v3), some (.int v4)] [] h K := by
  have c1 := H.1
  refine Ek.chk 3 (fun n => rfl) c1 ?_
  replace H := H.2
  refine Ek.br 1 (fun n => rfl) (fun hc => ?_) (fun hc => ?_)
  · replace H := H.1 hc
    exact Ek.ret 2 (fun n => rfl) H
  · replace H := H.2 hc
    refine Ek.callT 4 (fun n => rfl) c1 ?_
    refine Ek.chk 2 (fun n => rfl) c1 ?_
    obtain ⟨p2, e3, H⟩ := H
    show Ek _ _ _ (va_rf (mP h v0 1) :: _) _ _
    rw [e3]
    refine Ek.chk 3 (fun n => rfl) c1 ?_
    have c4 := H.1
    refine Ek.chk 8 (fun n => rfl) c4 ?_
    replace H := H.2
    refine Ek.br 2 (fun n => rfl) (fun hc => ?_) (fun hc => ?_)
    · replace H := H.1 hc
      refine Ek.ret 2 (fun n => rfl) ?_
      exact Ek.go 3 (fun n => rfl) H
    · replace H := H.2 hc
      refine Ek.ret 3 (fun n => rfl) ?_
      exact Ek.go 9 (fun n => rfl) H

/-- RoundVotes$Decisions.<init>()V, from 0 -/
set_option maxRecDepth 4000 in
theorem T15 {a0 : Nat} {h : mH} {K : Option Value → mH → Prop} (H : (¬ (41 : Int32) < 0 ∧ ((41 : Int32).toNatClampNeg) ≤ 1000000) ∧ (∀ h1, h1 = wN h 20 ((41 : Int32).toNatClampNeg) → ((mTg h1 a0 = 3) ∧ (∀ h3, h3 = wP h1 a0 0 (some ((mTop h))) → (∀ h5, h5 = wN h3 20 ((41 : Int32).toNatClampNeg) → ((mTg h5 a0 = 3) ∧ (∀ h6, h6 = wP h5 a0 1 (some ((mTop h3))) → (∀ h8, h8 = wN h6 20 ((41 : Int32).toNatClampNeg) → ((mTg h8 a0 = 3) ∧ (∀ h9, h9 = wP h8 a0 2 (some ((mTop h6))) → (K none h9))))))))))) : Ek 15 0 [some (.ref a0)] [] h K := by
  have c2 := H.1
  refine Ek.chk 5 (fun n => rfl) c2 ?_
  replace H := H.2
  let h1 : mH := wN h 20 ((41 : Int32).toNatClampNeg)
  replace H := H h1 rfl
  show Ek _ _ _ _ h1 _
  have c4 := H.1
  refine Ek.chk 1 (fun n => rfl) c4 ?_
  replace H := H.2
  let h3 : mH := wP h1 a0 0 (some ((mTop h)))
  replace H := H h3 rfl
  show Ek _ _ _ _ h3 _
  refine Ek.chk 3 (fun n => rfl) c2 ?_
  let h5 : mH := wN h3 20 ((41 : Int32).toNatClampNeg)
  replace H := H h5 rfl
  show Ek _ _ _ _ h5 _
  have c7 := H.1
  refine Ek.chk 1 (fun n => rfl) c7 ?_
  replace H := H.2
  let h6 : mH := wP h5 a0 1 (some ((mTop h3)))
  replace H := H h6 rfl
  show Ek _ _ _ _ h6 _
  refine Ek.chk 3 (fun n => rfl) c2 ?_
  let h8 : mH := wN h6 20 ((41 : Int32).toNatClampNeg)
  replace H := H h8 rfl
  show Ek _ _ _ _ h8 _
  have c10 := H.1
  refine Ek.chk 1 (fun n => rfl) c10 ?_
  replace H := H.2
  let h9 : mH := wP h8 a0 2 (some ((mTop h6)))
  replace H := H h9 rfl
  show Ek _ _ _ _ h9 _
  exact Ek.ret 1 (fun n => rfl) H

/-- RoundVotes$Decisions.put(IIII)V, from 0 -/
set_option maxRecDepth 4000 in
theorem T16 {a0 : Nat} {a1 : Int32} {a2 : Int32} {a3 : Int32} {a4 : Int32} {h : mH} {K : Option Value → mH → Prop} (H : (mTg h a0 = 3) ∧ (∃ p2, mP h a0 0 = some p2 ∧ ((mTg h p2 = 20 ∧ ¬ a1 < 0 ∧ (a1.toNatClampNeg) < mLn h p2) ∧ (∀ h4, h4 = wI h p2 (a1.toNatClampNeg) a2 → (∃ p6, mP h a0 1 = some p6 ∧ ((mTg h p6 = 20 ∧ ¬ a1 < 0 ∧ (a1.toNatClampNeg) < mLn h p6) ∧ (∀ h8, h8 = wI h4 p6 (a1.toNatClampNeg) a3 → (∃ p10, mP h a0 2 = some p10 ∧ ((mTg h p10 = 20 ∧ ¬ a1 < 0 ∧ (a1.toNatClampNeg) < mLn h p10) ∧ (∀ h12, h12 = wI h8 p10 (a1.toNatClampNeg) a4 → (K none h12))))))))))) : Ek 16 0 [some (.ref a0), some (.int a1), some (.int a2), some (.int a3), some (.int a4)] [] h K := by
  have c1 := H.1
  refine Ek.chk 2 (fun n => rfl) c1 ?_
  replace H := H.2
  obtain ⟨p2, e3, H⟩ := H
  show Ek _ _ _ (va_rf (mP h a0 0) :: _) _ _
  rw [e3]
  have c5 := H.1
  refine Ek.chk 3 (fun n => rfl) c5 ?_
  replace H := H.2
  let h4 : mH := wI h p2 (a1.toNatClampNeg) a2
  replace H := H h4 rfl
  show Ek _ _ _ _ h4 _
  refine Ek.chk 2 (fun n => rfl) c1 ?_
  obtain ⟨p6, e7, H⟩ := H
  show Ek _ _ _ (va_rf (mP h a0 1) :: _) _ _
  rw [e7]
  have c9 := H.1
  refine Ek.chk 3 (fun n => rfl) c9 ?_
  replace H := H.2
  let h8 : mH := wI h4 p6 (a1.toNatClampNeg) a3
  replace H := H h8 rfl
  show Ek _ _ _ _ h8 _
  refine Ek.chk 2 (fun n => rfl) c1 ?_
  obtain ⟨p10, e11, H⟩ := H
  show Ek _ _ _ (va_rf (mP h a0 2) :: _) _ _
  rw [e11]
  have c13 := H.1
  refine Ek.chk 3 (fun n => rfl) c13 ?_
  replace H := H.2
  let h12 : mH := wI h8 p10 (a1.toNatClampNeg) a4
  replace H := H h12 rfl
  show Ek _ _ _ _ h12 _
  exact Ek.ret 1 (fun n => rfl) H

/-- RoundVotes$Decisions.holds(I)Z, from 0 -/
set_option maxRecDepth 4000 in
theorem T17 {a0 : Nat} {a1 : Int32} {h : mH} {K : Option Value → mH → Prop} (H : (mTg h a0 = 3) ∧ (∃ p2, mP h a0 0 = some p2 ∧ (((mTg h p2 = 20 ∨ mTg h p2 = 30) ∧ ¬ a1 < 0 ∧ (a1.toNatClampNeg) < mLn h p2) ∧ (((mI h p2 (a1.toNatClampNeg)) = 0 → (K (some (.int 0)) h)) ∧ (¬ (mI h p2 (a1.toNatClampNeg)) = 0 → (K (some (.int 1)) h)))))) : Ek 17 0 [some (.ref a0), some (.int a1)] [] h K := by
  have c1 := H.1
  refine Ek.chk 2 (fun n => rfl) c1 ?_
  replace H := H.2
  obtain ⟨p2, e3, H⟩ := H
  show Ek _ _ _ (va_rf (mP h a0 0) :: _) _ _
  rw [e3]
  have c4 := H.1
  refine Ek.chk 2 (fun n => rfl) c4 ?_
  replace H := H.2
  refine Ek.br 1 (fun n => rfl) (fun hc => ?_) (fun hc => ?_)
  · replace H := H.1 hc
    exact Ek.ret 2 (fun n => rfl) H
  · replace H := H.2 hc
    exact Ek.ret 3 (fun n => rfl) H

/-- RoundVotes$Faults.<init>()V, from 0 -/
set_option maxRecDepth 4000 in
theorem T18 {a0 : Nat} {h : mH} {K : Option Value → mH → Prop} (H : (¬ (1200 : Int32) < 0 ∧ ((1200 : Int32).toNatClampNeg) ≤ 1000000) ∧ (∀ h1, h1 = wN h 20 ((1200 : Int32).toNatClampNeg) → ((mTg h1 a0 = 4) ∧ (∀ h3, h3 = wP h1 a0 0 (some ((mTop h))) → (K none h3))))) : Ek 18 0 [some (.ref a0)] [] h K := by
  have c2 := H.1
  refine Ek.chk 5 (fun n => rfl) c2 ?_
  replace H := H.2
  let h1 : mH := wN h 20 ((1200 : Int32).toNatClampNeg)
  replace H := H h1 rfl
  show Ek _ _ _ _ h1 _
  have c4 := H.1
  refine Ek.chk 1 (fun n => rfl) c4 ?_
  replace H := H.2
  let h3 : mH := wP h1 a0 0 (some ((mTop h)))
  replace H := H h3 rfl
  show Ek _ _ _ _ h3 _
  exact Ek.ret 1 (fun n => rfl) H

/-- RoundVotes$Faults.add(LRoundVotes$Message;I)V, from 0 -/
set_option maxRecDepth 4000 in
theorem T19 {a0 : Nat} {a1 : Nat} {a2 : Int32} {h : mH} {K : Option Value → mH → Prop} (H : (mTg h a0 = 4) ∧ (((200 : Int32) ≤ (mI h a0 1) → (K none h)) ∧ (¬ (200 : Int32) ≤ (mI h a0 1) → (Ek 20 0 [some (.ref a0), some (.ref a1), none, none] [] h (fun r h2 => ∃ x3 : Int32, r = some (.int x3) ∧ ((x3 = 0 → ((mTg h2 a0 = 4) ∧ (∃ p5, mP h2 a0 0 = some p5 ∧ ((mTg h2 a1 = 6) ∧ ((mTg h2 p5 = 20 ∧ ¬ (((mI h2 a0 1) * 6) + 0) < 0 ∧ ((((mI h2 a0 1) * 6) + 0).toNatClampNeg) < mLn h2 p5) ∧ (∀ h8, h8 = wI h2 p5 ((((mI h2 a0 1) * 6) + 0).toNatClampNeg) (mI h2 a1 0) → ((mTg h2 p5 = 20 ∧ ¬ (((mI h2 a0 1) * 6) + 1) < 0 ∧ ((((mI h2 a0 1) * 6) + 1).toNatClampNeg) < mLn h2 p5) ∧ (∀ h11, h11 = wI h8 p5 ((((mI h2 a0 1) * 6) + 1).toNatClampNeg) (mI h8 a1 2) → ((mTg h2 p5 = 20 ∧ ¬ (((mI h2 a0 1) * 6) + 2) < 0 ∧ ((((mI h2 a0 1) * 6) + 2).toNatClampNeg) < mLn h2 p5) ∧ (∀ h14, h14 = wI h11 p5 ((((mI h2 a0 1) * 6) + 2).toNatClampNeg) (mI h11 a1 3) → ((mTg h2 p5 = 20 ∧ ¬ (((mI h2 a0 1) * 6) + 3) < 0 ∧ ((((mI h2 a0 1) * 6) + 3).toNatClampNeg) < mLn h2 p5) ∧ (∀ h17, h17 = wI h14 p5 ((((mI h2 a0 1) * 6) + 3).toNatClampNeg) (mI h14 a1 4) → ((mTg h2 p5 = 20 ∧ ¬ (((mI h2 a0 1) * 6) + 4) < 0 ∧ ((((mI h2 a0 1) * 6) + 4).toNatClampNeg) < mLn h2 p5) ∧ (∀ h20, h20 = wI h17 p5 ((((mI h2 a0 1) * 6) + 4).toNatClampNeg) (mI h17 a1 1) → ((mTg h2 p5 = 20 ∧ ¬ (((mI h2 a0 1) * 6) + 5) < 0 ∧ ((((mI h2 a0 1) * 6) + 5).toNatClampNeg) < mLn h2 p5) ∧ (∀ h23, h23 = wI h20 p5 ((((mI h2 a0 1) * 6) + 5).toNatClampNeg) a2 → (∀ h25, h25 = wI h23 a0 1 ((mI h23 a0 1) + 1) → (K none h25)))))))))))))))))) ∧ (¬ x3 = 0 → (K none h2)))))))) : Ek 19 0 [some (.ref a0), some (.ref a1), some (.int a2), none] [] h K := by
  have c1 := H.1
  refine Ek.chk 2 (fun n => rfl) c1 ?_
  replace H := H.2
  refine Ek.br 2 (fun n => rfl) (fun hc => ?_) (fun hc => ?_)
  · replace H := H.1 hc
    exact Ek.ret 1 (fun n => rfl) H
  · replace H := H.2 hc
    refine Ek.callT 2 (fun n => rfl) c1 ?_
    refine Ek.mono H ?_
    rintro _ h2 ⟨x3, rfl, H⟩
    refine Ek.br 1 (fun n => rfl) (fun hc => ?_) (fun hc => ?_)
    · replace H := H.1 hc
      have c4 := H.1
      refine Ek.chk 2 (fun n => rfl) c4 ?_
      replace H := H.2
      refine Ek.chk 5 (fun n => rfl) c4 ?_
      obtain ⟨p5, e6, H⟩ := H
      show Ek _ _ _ (va_rf (mP h2 a0 0) :: _) _ _
      rw [e6]
      have c7 := H.1
      refine Ek.chk 5 (fun n => rfl) c7 ?_
      replace H := H.2
      have c9 := H.1
      refine Ek.chk 1 (fun n => rfl) c9 ?_
      replace H := H.2
      let h8 : mH := wI h2 p5 ((((mI h2 a0 1) * 6) + 0).toNatClampNeg) (mI h2 a1 0)
      replace H := H h8 rfl
      show Ek _ _ _ _ h8 _
      refine Ek.chk 2 (fun n => rfl) c4 ?_
      show Ek _ _ _ (va_rf (mP h2 a0 0) :: _) _ _
      rw [e6]
      refine Ek.chk 5 (fun n => rfl) c7 ?_
      have c12 := H.1
      refine Ek.chk 1 (fun n => rfl) c12 ?_
      replace H := H.2
      let h11 : mH := wI h8 p5 ((((mI h2 a0 1) * 6) + 1).toNatClampNeg) (mI h8 a1 2)
      replace H := H h11 rfl
      show Ek _ _ _ _ h11 _
      refine Ek.chk 2 (fun n => rfl) c4 ?_
      show Ek _ _ _ (va_rf (mP h2 a0 0) :: _) _ _
      rw [e6]
      refine Ek.chk 5 (fun n => rfl) c7 ?_
      have c15 := H.1
      refine Ek.chk 1 (fun n => rfl) c15 ?_
      replace H := H.2
      let h14 : mH := wI h11 p5 ((((mI h2 a0 1) * 6) + 2).toNatClampNeg) (mI h11 a1 3)
      replace H := H h14 rfl
      show Ek _ _ _ _ h14 _
      refine Ek.chk 2 (fun n => rfl) c4 ?_
      show Ek _ _ _ (va_rf (mP h2 a0 0) :: _) _ _
      rw [e6]
      refine Ek.chk 5 (fun n => rfl) c7 ?_
      have c18 := H.1
      refine Ek.chk 1 (fun n => rfl) c18 ?_
      replace H := H.2
      let h17 : mH := wI h14 p5 ((((mI h2 a0 1) * 6) + 3).toNatClampNeg) (mI h14 a1 4)
      replace H := H h17 rfl
      show Ek _ _ _ _ h17 _
      refine Ek.chk 2 (fun n => rfl) c4 ?_
      show Ek _ _ _ (va_rf (mP h2 a0 0) :: _) _ _
      rw [e6]
      refine Ek.chk 5 (fun n => rfl) c7 ?_
      have c21 := H.1
      refine Ek.chk 1 (fun n => rfl) c21 ?_
      replace H := H.2
      let h20 : mH := wI h17 p5 ((((mI h2 a0 1) * 6) + 4).toNatClampNeg) (mI h17 a1 1)
      replace H := H h20 rfl
      show Ek _ _ _ _ h20 _
      refine Ek.chk 2 (fun n => rfl) c4 ?_
      show Ek _ _ _ (va_rf (mP h2 a0 0) :: _) _ _
      rw [e6]
      have c24 := H.1
      refine Ek.chk 5 (fun n => rfl) c24 ?_
      replace H := H.2
      let h23 : mH := wI h20 p5 ((((mI h2 a0 1) * 6) + 5).toNatClampNeg) a2
      replace H := H h23 rfl
      show Ek _ _ _ _ h23 _
      refine Ek.chk 3 (fun n => rfl) c4 ?_
      refine Ek.chk 3 (fun n => rfl) c4 ?_
      let h25 : mH := wI h23 a0 1 ((mI h23 a0 1) + 1)
      replace H := H h25 rfl
      show Ek _ _ _ _ h25 _
      exact Ek.ret 1 (fun n => rfl) H
    · replace H := H.2 hc
      exact Ek.ret 1 (fun n => rfl) H

/-- RoundVotes$Faults.isKnown(LRoundVotes$Message;)Z, from 0 -/
set_option maxRecDepth 4000 in
theorem T20 {a0 : Nat} {a1 : Nat} {h : mH} {K : Option Value → mH → Prop} (H : Ek 20 2 [some (.ref a0), some (.ref a1), some (.int 0), none] [] h K) : Ek 20 0 [some (.ref a0), some (.ref a1), none, none] [] h K := by
  exact Ek.go 2 (fun n => rfl) H

/-- RoundVotes$Faults.isKnown(LRoundVotes$Message;)Z, from 2 -/
set_option maxRecDepth 4000 in
theorem T20_2 {v0 : Nat} {v1 : Nat} {v2 : Int32} {h : mH} {K : Option Value → mH → Prop} (H : (mTg h v0 = 4) ∧ (((mI h v0 1) ≤ v2 → (K (some (.int 0)) h)) ∧ (¬ (mI h v0 1) ≤ v2 → (∃ p2, mP h v0 0 = some p2 ∧ (((mTg h p2 = 20 ∨ mTg h p2 = 30) ∧ ¬ ((v2 * 6) + 0) < 0 ∧ (((v2 * 6) + 0).toNatClampNeg) < mLn h p2) ∧ ((mTg h v1 = 6) ∧ (((mI h p2 (((v2 * 6) + 0).toNatClampNeg)) = (mI h v1 0) → (((mTg h p2 = 20 ∨ mTg h p2 = 30) ∧ ¬ ((v2 * 6) + 1) < 0 ∧ (((v2 * 6) + 1).toNatClampNeg) < mLn h p2) ∧ (((mI h p2 (((v2 * 6) + 1).toNatClampNeg)) = (mI h v1 2) → (((mTg h p2 = 20 ∨ mTg h p2 = 30) ∧ ¬ ((v2 * 6) + 2) < 0 ∧ (((v2 * 6) + 2).toNatClampNeg) < mLn h p2) ∧ (((mI h p2 (((v2 * 6) + 2).toNatClampNeg)) = (mI h v1 3) → (((mTg h p2 = 20 ∨ mTg h p2 = 30) ∧ ¬ ((v2 * 6) + 3) < 0 ∧ (((v2 * 6) + 3).toNatClampNeg) < mLn h p2) ∧ (((mI h p2 (((v2 * 6) + 3).toNatClampNeg)) = (mI h v1 4) → (K (some (.int 1)) h)) ∧ (¬ (mI h p2 (((v2 * 6) + 3).toNatClampNeg)) = (mI h v1 4) → (Ek 20 2 [some (.ref v0), some (.ref v1), some (.int (v2 + 1)), some (.int 1)] [] h K))))) ∧ (¬ (mI h p2 (((v2 * 6) + 2).toNatClampNeg)) = (mI h v1 3) → (Ek 20 2 [some (.ref v0), some (.ref v1), some (.int (v2 + 1)), some (.int 1)] [] h K))))) ∧ (¬ (mI h p2 (((v2 * 6) + 1).toNatClampNeg)) = (mI h v1 2) → (Ek 20 2 [some (.ref v0), some (.ref v1), some (.int (v2 + 1)), some (.int 0)] [] h K))))) ∧ (¬ (mI h p2 (((v2 * 6) + 0).toNatClampNeg)) = (mI h v1 0) → (Ek 20 2 [some (.ref v0), some (.ref v1), some (.int (v2 + 1)), some (.int 0)] [] h K))))))))) : Ek 20 2 [some (.ref v0), some (.ref v1), some (.int v2), none] [] h K := by
  have c1 := H.1
  refine Ek.chk 3 (fun n => rfl) c1 ?_
  replace H := H.2
  refine Ek.br 1 (fun n => rfl) (fun hc => ?_) (fun hc => ?_)
  · replace H := H.1 hc
    exact Ek.ret 2 (fun n => rfl) H
  · replace H := H.2 hc
    refine Ek.callT 3 (fun n => rfl) c1 ?_
    refine Ek.chk 2 (fun n => rfl) c1 ?_
    obtain ⟨p2, e3, H⟩ := H
    show Ek _ _ _ (va_rf (mP h v0 0) :: _) _ _
    rw [e3]
    have c4 := H.1
    refine Ek.chk 6 (fun n => rfl) c4 ?_
    replace H := H.2
    refine Ek.ret 1 (fun n => rfl) ?_
    have c5 := H.1
    refine Ek.chk 2 (fun n => rfl) c5 ?_
    replace H := H.2
    refine Ek.br 1 (fun n => rfl) (fun hc => ?_) (fun hc => ?_)
    · replace H := H.1 hc
      refine Ek.callT 3 (fun n => rfl) c1 ?_
      refine Ek.chk 2 (fun n => rfl) c1 ?_
      show Ek _ _ _ (va_rf (mP h v0 0) :: _) _ _
      rw [e3]
      have c7 := H.1
      refine Ek.chk 6 (fun n => rfl) c7 ?_
      replace H := H.2
      refine Ek.ret 1 (fun n => rfl) ?_
      refine Ek.chk 2 (fun n => rfl) c5 ?_
      refine Ek.br 1 (fun n => rfl) (fun hc => ?_) (fun hc => ?_)
      · replace H := H.1 hc
        refine Ek.callT 8 (fun n => rfl) c1 ?_
        refine Ek.chk 2 (fun n => rfl) c1 ?_
        show Ek _ _ _ (va_rf (mP h v0 0) :: _) _ _
        rw [e3]
        have c9 := H.1
        refine Ek.chk 6 (fun n => rfl) c9 ?_
        replace H := H.2
        refine Ek.ret 1 (fun n => rfl) ?_
        refine Ek.chk 2 (fun n => rfl) c5 ?_
        refine Ek.br 1 (fun n => rfl) (fun hc => ?_) (fun hc => ?_)
        · replace H := H.1 hc
          refine Ek.callT 3 (fun n => rfl) c1 ?_
          refine Ek.chk 2 (fun n => rfl) c1 ?_
          show Ek _ _ _ (va_rf (mP h v0 0) :: _) _ _
          rw [e3]
          have c11 := H.1
          refine Ek.chk 6 (fun n => rfl) c11 ?_
          replace H := H.2
          refine Ek.ret 1 (fun n => rfl) ?_
          refine Ek.chk 2 (fun n => rfl) c5 ?_
          refine Ek.br 1 (fun n => rfl) (fun hc => ?_) (fun hc => ?_)
          · replace H := H.1 hc
            exact Ek.ret 2 (fun n => rfl) H
          · replace H := H.2 hc
            exact Ek.go 2 (fun n => rfl) H
        · replace H := H.2 hc
          exact Ek.go 2 (fun n => rfl) H
      · replace H := H.2 hc
        exact Ek.go 6 (fun n => rfl) H
    · replace H := H.2 hc
      exact Ek.go 6 (fun n => rfl) H

/-- RoundVotes$Faults.part(II)I, from 0 -/
set_option maxRecDepth 4000 in
theorem T21 {a0 : Nat} {a1 : Int32} {a2 : Int32} {h : mH} {K : Option Value → mH → Prop} (H : (mTg h a0 = 4) ∧ (∃ p2, mP h a0 0 = some p2 ∧ (((mTg h p2 = 20 ∨ mTg h p2 = 30) ∧ ¬ ((a1 * 6) + a2) < 0 ∧ (((a1 * 6) + a2).toNatClampNeg) < mLn h p2) ∧ (K (some (.int (mI h p2 (((a1 * 6) + a2).toNatClampNeg)))) h)))) : Ek 21 0 [some (.ref a0), some (.int a1), some (.int a2)] [] h K := by
  have c1 := H.1
  refine Ek.chk 2 (fun n => rfl) c1 ?_
  replace H := H.2
  obtain ⟨p2, e3, H⟩ := H
  show Ek _ _ _ (va_rf (mP h a0 0) :: _) _ _
  rw [e3]
  have c4 := H.1
  refine Ek.chk 6 (fun n => rfl) c4 ?_
  replace H := H.2
  exact Ek.ret 1 (fun n => rfl) H

/-- RoundVotes$Told.<init>()V, from 0 -/
set_option maxRecDepth 4000 in
theorem T22 {a0 : Nat} {h : mH} {K : Option Value → mH → Prop} (H : (¬ (60 : Int32) < 0 ∧ ((60 : Int32).toNatClampNeg) ≤ 1000000) ∧ (∀ h1, h1 = wN h 20 ((60 : Int32).toNatClampNeg) → ((mTg h1 a0 = 10) ∧ (∀ h3, h3 = wP h1 a0 0 (some ((mTop h))) → (∀ h5, h5 = wN h3 20 ((60 : Int32).toNatClampNeg) → ((mTg h5 a0 = 10) ∧ (∀ h6, h6 = wP h5 a0 1 (some ((mTop h3))) → (∀ h8, h8 = wN h6 20 ((60 : Int32).toNatClampNeg) → ((mTg h8 a0 = 10) ∧ (∀ h9, h9 = wP h8 a0 2 (some ((mTop h6))) → (K none h9))))))))))) : Ek 22 0 [some (.ref a0)] [] h K := by
  have c2 := H.1
  refine Ek.chk 5 (fun n => rfl) c2 ?_
  replace H := H.2
  let h1 : mH := wN h 20 ((60 : Int32).toNatClampNeg)
  replace H := H h1 rfl
  show Ek _ _ _ _ h1 _
  have c4 := H.1
  refine Ek.chk 1 (fun n => rfl) c4 ?_
  replace H := H.2
  let h3 : mH := wP h1 a0 0 (some ((mTop h)))
  replace H := H h3 rfl
  show Ek _ _ _ _ h3 _
  refine Ek.chk 3 (fun n => rfl) c2 ?_
  let h5 : mH := wN h3 20 ((60 : Int32).toNatClampNeg)
  replace H := H h5 rfl
  show Ek _ _ _ _ h5 _
  have c7 := H.1
  refine Ek.chk 1 (fun n => rfl) c7 ?_
  replace H := H.2
  let h6 : mH := wP h5 a0 1 (some ((mTop h3)))
  replace H := H h6 rfl
  show Ek _ _ _ _ h6 _
  refine Ek.chk 3 (fun n => rfl) c2 ?_
  let h8 : mH := wN h6 20 ((60 : Int32).toNatClampNeg)
  replace H := H h8 rfl
  show Ek _ _ _ _ h8 _
  have c10 := H.1
  refine Ek.chk 1 (fun n => rfl) c10 ?_
  replace H := H.2
  let h9 : mH := wP h8 a0 2 (some ((mTop h6)))
  replace H := H h9 rfl
  show Ek _ _ _ _ h9 _
  exact Ek.ret 1 (fun n => rfl) H

/-- RoundVotes$Told.find(I)I, from 0 -/
set_option maxRecDepth 4000 in
theorem T23 {a0 : Nat} {a1 : Int32} {h : mH} {K : Option Value → mH → Prop} (H : Ek 23 2 [some (.ref a0), some (.int a1), some (.int 0)] [] h K) : Ek 23 0 [some (.ref a0), some (.int a1), none] [] h K := by
  exact Ek.go 2 (fun n => rfl) H

/-- RoundVotes$Told.find(I)I, from 2 -/
set_option maxRecDepth 4000 in
theorem T23_2 {v0 : Nat} {v1 : Int32} {v2 : Int32} {h : mH} {K : Option Value → mH → Prop} (H : (mTg h v0 = 10) ∧ (((mI h v0 3) ≤ v2 → (K (some (.int (-1))) h)) ∧ (¬ (mI h v0 3) ≤ v2 → (∃ p2, mP h v0 0 = some p2 ∧ (((mTg h p2 = 20 ∨ mTg h p2 = 30) ∧ ¬ v2 < 0 ∧ (v2.toNatClampNeg) < mLn h p2) ∧ (((mI h p2 (v2.toNatClampNeg)) = v1 → (K (some (.int v2)) h)) ∧ (¬ (mI h p2 (v2.toNatClampNeg)) = v1 → (Ek 23 2 [some (.ref v0), some (.int v1), some (.int (v2 + 1))] [] h K)))))))) : Ek 23 2 [some (.ref v0), some (.int v1), some (.int v2)] [] h K := by
  have c1 := H.1
  refine Ek.chk 3 (fun n => rfl) c1 ?_
  replace H := H.2
  refine Ek.br 1 (fun n => rfl) (fun hc => ?_) (fun hc => ?_)
  · replace H := H.1 hc
    exact Ek.ret 2 (fun n => rfl) H
  · replace H := H.2 hc
    refine Ek.chk 2 (fun n => rfl) c1 ?_
    obtain ⟨p2, e3, H⟩ := H
    show Ek _ _ _ (va_rf (mP h v0 0) :: _) _ _
    rw [e3]
    have c4 := H.1
    refine Ek.chk 2 (fun n => rfl) c4 ?_
    replace H := H.2
    refine Ek.br 2 (fun n => rfl) (fun hc => ?_) (fun hc => ?_)
    · replace H := H.1 hc
      exact Ek.ret 2 (fun n => rfl) H
    · replace H := H.2 hc
      exact Ek.go 2 (fun n => rfl) H

/-- RoundVotes$Told.add(III)Z, from 0 -/
set_option maxRecDepth 4000 in
theorem T24 {a0 : Nat} {a1 : Int32} {a2 : Int32} {a3 : Int32} {h : mH} {K : Option Value → mH → Prop} (H : (mTg h a0 = 10) ∧ (((mI h a0 3) < 60 → (∃ p2, mP h a0 0 = some p2 ∧ ((mTg h p2 = 20 ∧ ¬ (mI h a0 3) < 0 ∧ ((mI h a0 3).toNatClampNeg) < mLn h p2) ∧ (∀ h4, h4 = wI h p2 ((mI h a0 3).toNatClampNeg) a1 → (∃ p6, mP h a0 1 = some p6 ∧ ((mTg h p6 = 20 ∧ ¬ (mI h4 a0 3) < 0 ∧ ((mI h4 a0 3).toNatClampNeg) < mLn h p6) ∧ (∀ h8, h8 = wI h4 p6 ((mI h4 a0 3).toNatClampNeg) a2 → (∃ p10, mP h a0 2 = some p10 ∧ ((mTg h p10 = 20 ∧ ¬ (mI h8 a0 3) < 0 ∧ ((mI h8 a0 3).toNatClampNeg) < mLn h p10) ∧ (∀ h12, h12 = wI h8 p10 ((mI h8 a0 3).toNatClampNeg) a3 → (∀ h14, h14 = wI h12 a0 3 ((mI h12 a0 3) + 1) → (K (some (.int 1)) h14)))))))))))) ∧ (¬ (mI h a0 3) < 60 → (K (some (.int 0)) h)))) : Ek 24 0 [some (.ref a0), some (.int a1), some (.int a2), some (.int a3)] [] h K := by
  have c1 := H.1
  refine Ek.chk 2 (fun n => rfl) c1 ?_
  replace H := H.2
  refine Ek.br 2 (fun n => rfl) (fun hc => ?_) (fun hc => ?_)
  · replace H := H.1 hc
    refine Ek.chk 2 (fun n => rfl) c1 ?_
    obtain ⟨p2, e3, H⟩ := H
    show Ek _ _ _ (va_rf (mP h a0 0) :: _) _ _
    rw [e3]
    refine Ek.chk 2 (fun n => rfl) c1 ?_
    have c5 := H.1
    refine Ek.chk 2 (fun n => rfl) c5 ?_
    replace H := H.2
    let h4 : mH := wI h p2 ((mI h a0 3).toNatClampNeg) a1
    replace H := H h4 rfl
    show Ek _ _ _ _ h4 _
    refine Ek.chk 2 (fun n => rfl) c1 ?_
    obtain ⟨p6, e7, H⟩ := H
    show Ek _ _ _ (va_rf (mP h a0 1) :: _) _ _
    rw [e7]
    refine Ek.chk 2 (fun n => rfl) c1 ?_
    have c9 := H.1
    refine Ek.chk 2 (fun n => rfl) c9 ?_
    replace H := H.2
    let h8 : mH := wI h4 p6 ((mI h4 a0 3).toNatClampNeg) a2
    replace H := H h8 rfl
    show Ek _ _ _ _ h8 _
    refine Ek.chk 2 (fun n => rfl) c1 ?_
    obtain ⟨p10, e11, H⟩ := H
    show Ek _ _ _ (va_rf (mP h a0 2) :: _) _ _
    rw [e11]
    refine Ek.chk 2 (fun n => rfl) c1 ?_
    have c13 := H.1
    refine Ek.chk 2 (fun n => rfl) c13 ?_
    replace H := H.2
    let h12 : mH := wI h8 p10 ((mI h8 a0 3).toNatClampNeg) a3
    replace H := H h12 rfl
    show Ek _ _ _ _ h12 _
    refine Ek.chk 3 (fun n => rfl) c1 ?_
    refine Ek.chk 3 (fun n => rfl) c1 ?_
    let h14 : mH := wI h12 a0 3 ((mI h12 a0 3) + 1)
    replace H := H h14 rfl
    show Ek _ _ _ _ h14 _
    exact Ek.ret 2 (fun n => rfl) H
  · replace H := H.2 hc
    exact Ek.ret 2 (fun n => rfl) H

/-- RoundVotes$Told.remove(I)V, from 0 -/
set_option maxRecDepth 4000 in
theorem T25 {a0 : Nat} {a1 : Int32} {h : mH} {K : Option Value → mH → Prop} (H : (a1 < 0 → (K none h)) ∧ (¬ a1 < 0 → ((mTg h a0 = 10) ∧ ((a1 < (mI h a0 3) → (∀ h2, h2 = wI h a0 3 ((mI h a0 3) - 1) → (∃ p3, mP h a0 0 = some p3 ∧ (((mTg h p3 = 20 ∨ mTg h p3 = 30) ∧ ¬ (mI h2 a0 3) < 0 ∧ ((mI h2 a0 3).toNatClampNeg) < mLn h p3) ∧ ((mTg h p3 = 20 ∧ ¬ a1 < 0 ∧ (a1.toNatClampNeg) < mLn h p3) ∧ (∀ h7, h7 = wI h2 p3 (a1.toNatClampNeg) (mI h2 p3 ((mI h2 a0 3).toNatClampNeg)) → (∃ p9, mP h a0 1 = some p9 ∧ (((mTg h p9 = 20 ∨ mTg h p9 = 30) ∧ ¬ (mI h7 a0 3) < 0 ∧ ((mI h7 a0 3).toNatClampNeg) < mLn h p9) ∧ ((mTg h p9 = 20 ∧ ¬ a1 < 0 ∧ (a1.toNatClampNeg) < mLn h p9) ∧ (∀ h13, h13 = wI h7 p9 (a1.toNatClampNeg) (mI h7 p9 ((mI h7 a0 3).toNatClampNeg)) → (∃ p15, mP h a0 2 = some p15 ∧ (((mTg h p15 = 20 ∨ mTg h p15 = 30) ∧ ¬ (mI h13 a0 3) < 0 ∧ ((mI h13 a0 3).toNatClampNeg) < mLn h p15) ∧ ((mTg h p15 = 20 ∧ ¬ a1 < 0 ∧ (a1.toNatClampNeg) < mLn h p15) ∧ (∀ h19, h19 = wI h13 p15 (a1.toNatClampNeg) (mI h13 p15 ((mI h13 a0 3).toNatClampNeg)) → (K none h19))))))))))))))) ∧ (¬ a1 < (mI h a0 3) → (K none h)))))) : Ek 25 0 [some (.ref a0), some (.int a1)] [] h K := by
  refine Ek.br 2 (fun n => rfl) (fun hc => ?_) (fun hc => ?_)
  · replace H := H.1 hc
    exact Ek.ret 1 (fun n => rfl) H
  · replace H := H.2 hc
    have c1 := H.1
    refine Ek.chk 3 (fun n => rfl) c1 ?_
    replace H := H.2
    refine Ek.br 1 (fun n => rfl) (fun hc => ?_) (fun hc => ?_)
    · replace H := H.1 hc
      refine Ek.chk 3 (fun n => rfl) c1 ?_
      refine Ek.chk 3 (fun n => rfl) c1 ?_
      let h2 : mH := wI h a0 3 ((mI h a0 3) - 1)
      replace H := H h2 rfl
      show Ek _ _ _ _ h2 _
      refine Ek.chk 2 (fun n => rfl) c1 ?_
      obtain ⟨p3, e4, H⟩ := H
      show Ek _ _ _ (va_rf (mP h a0 0) :: _) _ _
      rw [e4]
      refine Ek.chk 3 (fun n => rfl) c1 ?_
      show Ek _ _ _ (va_rf (mP h a0 0) :: _) _ _
      rw [e4]
      refine Ek.chk 2 (fun n => rfl) c1 ?_
      have c6 := H.1
      refine Ek.chk 1 (fun n => rfl) c6 ?_
      replace H := H.2
      have c8 := H.1
      refine Ek.chk 1 (fun n => rfl) c8 ?_
      replace H := H.2
      let h7 : mH := wI h2 p3 (a1.toNatClampNeg) (mI h2 p3 ((mI h2 a0 3).toNatClampNeg))
      replace H := H h7 rfl
      show Ek _ _ _ _ h7 _
      refine Ek.chk 2 (fun n => rfl) c1 ?_
      obtain ⟨p9, e10, H⟩ := H
      show Ek _ _ _ (va_rf (mP h a0 1) :: _) _ _
      rw [e10]
      refine Ek.chk 3 (fun n => rfl) c1 ?_
      show Ek _ _ _ (va_rf (mP h a0 1) :: _) _ _
      rw [e10]
      refine Ek.chk 2 (fun n => rfl) c1 ?_
      have c12 := H.1
      refine Ek.chk 1 (fun n => rfl) c12 ?_
      replace H := H.2
      have c14 := H.1
      refine Ek.chk 1 (fun n => rfl) c14 ?_
      replace H := H.2
      let h13 : mH := wI h7 p9 (a1.toNatClampNeg) (mI h7 p9 ((mI h7 a0 3).toNatClampNeg))
      replace H := H h13 rfl
      show Ek _ _ _ _ h13 _
      refine Ek.chk 2 (fun n => rfl) c1 ?_
      obtain ⟨p15, e16, H⟩ := H
      show Ek _ _ _ (va_rf (mP h a0 2) :: _) _ _
      rw [e16]
      refine Ek.chk 3 (fun n => rfl) c1 ?_
      show Ek _ _ _ (va_rf (mP h a0 2) :: _) _ _
      rw [e16]
      refine Ek.chk 2 (fun n => rfl) c1 ?_
      have c18 := H.1
      refine Ek.chk 1 (fun n => rfl) c18 ?_
      replace H := H.2
      have c20 := H.1
      refine Ek.chk 1 (fun n => rfl) c20 ?_
      replace H := H.2
      let h19 : mH := wI h13 p15 (a1.toNatClampNeg) (mI h13 p15 ((mI h13 a0 3).toNatClampNeg))
      replace H := H h19 rfl
      show Ek _ _ _ _ h19 _
      exact Ek.ret 1 (fun n => rfl) H
    · replace H := H.2 hc
      exact Ek.ret 1 (fun n => rfl) H

/-- RoundVotes$Setup.<init>(II)V, from 0 -/
set_option maxRecDepth 4000 in
theorem T26 {a0 : Nat} {a1 : Int32} {a2 : Int32} {h : mH} {K : Option Value → mH → Prop} (H : (¬ (41 : Int32) < 0 ∧ ((41 : Int32).toNatClampNeg) ≤ 1000000) ∧ (∀ h1, h1 = wN h 20 ((41 : Int32).toNatClampNeg) → ((mTg h1 a0 = 9) ∧ (∀ h3, h3 = wP h1 a0 3 (some ((mTop h))) → (∀ h5, h5 = wI h3 a0 0 (if (1 : Int32) < (if a1 < 10 then a1 else 10) then (if a1 < 10 then a1 else 10) else 1) → (∀ h6, h6 = wI h5 a0 1 a2 → (((¬ (41 : Int32) < 0 ∧ ((41 : Int32).toNatClampNeg) ≤ 1000000) ∧ ¬ (mI h6 a0 0) < 0 ∧ ((mI h6 a0 0).toNatClampNeg) ≤ 1000000) ∧ (∀ h7, h7 = wM h6 ((41 : Int32).toNatClampNeg) ((mI h6 a0 0).toNatClampNeg) → ((mTg h7 a0 = 9) ∧ (∀ h9, h9 = wP h7 a0 2 (some ((mTop h6))) → (Ek 26 47 [some (.ref a0), some (.int a1), some (.int a2), some (.int 1)] [] h9 K))))))))))) : Ek 26 0 [some (.ref a0), some (.int a1), some (.int a2), none] [] h K := by
  have c2 := H.1
  refine Ek.chk 5 (fun n => rfl) c2 ?_
  replace H := H.2
  let h1 : mH := wN h 20 ((41 : Int32).toNatClampNeg)
  replace H := H h1 rfl
  show Ek _ _ _ _ h1 _
  have c4 := H.1
  refine Ek.chk 1 (fun n => rfl) c4 ?_
  replace H := H.2
  let h3 : mH := wP h1 a0 3 (some ((mTop h)))
  replace H := H h3 rfl
  show Ek _ _ _ _ h3 _
  refine Ek.chk 7 (fun n => rfl) c4 ?_
  let h5 : mH := wI h3 a0 0 (if (1 : Int32) < (if a1 < 10 then a1 else 10) then (if a1 < 10 then a1 else 10) else 1)
  replace H := H h5 rfl
  show Ek _ _ _ _ h5 _
  refine Ek.chk 3 (fun n => rfl) c4 ?_
  let h6 : mH := wI h5 a0 1 a2
  replace H := H h6 rfl
  show Ek _ _ _ _ h6 _
  refine Ek.chk 4 (fun n => rfl) c4 ?_
  have c8 := H.1
  refine Ek.chk 1 (fun n => rfl) c8 ?_
  replace H := H.2
  let h7 : mH := wM h6 ((41 : Int32).toNatClampNeg) ((mI h6 a0 0).toNatClampNeg)
  replace H := H h7 rfl
  show Ek _ _ _ _ h7 _
  have c10 := H.1
  refine Ek.chk 1 (fun n => rfl) c10 ?_
  replace H := H.2
  let h9 : mH := wP h7 a0 2 (some ((mTop h6)))
  replace H := H h9 rfl
  show Ek _ _ _ _ h9 _
  exact Ek.go 2 (fun n => rfl) H

/-- RoundVotes$Setup.<init>(II)V, from 47 -/
set_option maxRecDepth 4000 in
theorem T26_47 {v0 : Nat} {v1 : Int32} {v2 : Int32} {v3 : Int32} {h : mH} {K : Option Value → mH → Prop} (H : ((40 : Int32) < v3 → (K none h)) ∧ (¬ (40 : Int32) < v3 → ((mTg h v0 = 9) ∧ (∃ p2, mP h v0 2 = some p2 ∧ (((mTg h p2 = 23 ∨ mTg h p2 = 24 ∨ mTg h p2 = 25) ∧ ¬ v3 < 0 ∧ (v3.toNatClampNeg) < mLn h p2) ∧ (∃ p5, mP h p2 (v3.toNatClampNeg) = some p5 ∧ (Ek 0 0 [some (.ref p5), some (.int 1), none, none] [] h (fun r h7 => r = none ∧ ((mTg h7 v0 = 9) ∧ (∃ p9, mP h7 v0 3 = some p9 ∧ ((mTg h7 p9 = 20 ∧ ¬ v3 < 0 ∧ (v3.toNatClampNeg) < mLn h7 p9) ∧ (∀ h11, h11 = wI h7 p9 (v3.toNatClampNeg) (mI h7 v0 0) → (Ek 26 47 [some (.ref v0), some (.int v1), some (.int v2), some (.int (v3 + 1))] [] h11 K))))))))))))) : Ek 26 47 [some (.ref v0), some (.int v1), some (.int v2), some (.int v3)] [] h K := by
  refine Ek.br 3 (fun n => rfl) (fun hc => ?_) (fun hc => ?_)
  · replace H := H.1 hc
    exact Ek.ret 1 (fun n => rfl) H
  · replace H := H.2 hc
    have c1 := H.1
    refine Ek.chk 2 (fun n => rfl) c1 ?_
    replace H := H.2
    obtain ⟨p2, e3, H⟩ := H
    show Ek _ _ _ (va_rf (mP h v0 2) :: _) _ _
    rw [e3]
    have c4 := H.1
    refine Ek.chk 2 (fun n => rfl) c4 ?_
    replace H := H.2
    obtain ⟨p5, e6, H⟩ := H
    show Ek _ _ _ (va_rf (mP h p2 (v3.toNatClampNeg)) :: _) _ _
    rw [e6]
    refine Ek.call 1 (fun n => rfl) ?_
    refine Ek.mono H ?_
    rintro _ h7 ⟨rfl, H⟩
    have c8 := H.1
    refine Ek.chk 2 (fun n => rfl) c8 ?_
    replace H := H.2
    obtain ⟨p9, e10, H⟩ := H
    show Ek _ _ _ (va_rf (mP h7 v0 3) :: _) _ _
    rw [e10]
    refine Ek.chk 3 (fun n => rfl) c8 ?_
    have c12 := H.1
    refine Ek.chk 1 (fun n => rfl) c12 ?_
    replace H := H.2
    let h11 : mH := wI h7 p9 (v3.toNatClampNeg) (mI h7 v0 0)
    replace H := H h11 rfl
    show Ek _ _ _ _ h11 _
    exact Ek.go 2 (fun n => rfl) H

/-- RoundVotes$Setup.changeWeight(III)V, from 0 -/
set_option maxRecDepth 4000 in
theorem T27 {a0 : Nat} {a1 : Int32} {a2 : Int32} {a3 : Int32} {h : mH} {K : Option Value → mH → Prop} (H : Ek 27 3 [some (.ref a0), some (.int a1), some (.int a2), some (.int a3), some (.int a3)] [] h K) : Ek 27 0 [some (.ref a0), some (.int a1), some (.int a2), some (.int a3), none] [] h K := by
  exact Ek.go 2 (fun n => rfl) H

/-- RoundVotes$Setup.changeWeight(III)V, from 3 -/
set_option maxRecDepth 4000 in
theorem T27_3 {v0 : Nat} {v1 : Int32} {v2 : Int32} {v3 : Int32} {v4 : Int32} {h : mH} {K : Option Value → mH → Prop} (H : ((40 : Int32) < v4 → (K none h)) ∧ (¬ (40 : Int32) < v4 → ((mTg h v0 = 9) ∧ (∃ p2, mP h v0 3 = some p2 ∧ (((mTg h p2 = 20 ∨ mTg h p2 = 30) ∧ ¬ v4 < 0 ∧ (v4.toNatClampNeg) < mLn h p2) ∧ (∃ p5, mP h v0 2 = some p5 ∧ (((mTg h p5 = 23 ∨ mTg h p5 = 24 ∨ mTg h p5 = 25) ∧ ¬ v4 < 0 ∧ (v4.toNatClampNeg) < mLn h p5) ∧ (∃ p8, mP h p5 (v4.toNatClampNeg) = some p8 ∧ (((mTg h p8 = 20 ∨ mTg h p8 = 30) ∧ ¬ v1 < 0 ∧ (v1.toNatClampNeg) < mLn h p8) ∧ ((mTg h p2 = 20 ∧ ¬ v4 < 0 ∧ (v4.toNatClampNeg) < mLn h p2) ∧ (∀ h11, h11 = wI h p2 (v4.toNatClampNeg) ((mI h p2 (v4.toNatClampNeg)) + (v2 - (mI h p8 (v1.toNatClampNeg)))) → ((mTg h p8 = 20 ∧ ¬ v1 < 0 ∧ (v1.toNatClampNeg) < mLn h p8) ∧ (∀ h15, h15 = wI h11 p8 (v1.toNatClampNeg) v2 → (Ek 27 3 [some (.ref v0), some (.int v1), some (.int v2), some (.int v3), some (.int (v4 + 1))] [] h15 K)))))))))))))) : Ek 27 3 [some (.ref v0), some (.int v1), some (.int v2), some (.int v3), some (.int v4)] [] h K := by
  refine Ek.br 3 (fun n => rfl) (fun hc => ?_) (fun hc => ?_)
  · replace H := H.1 hc
    exact Ek.ret 1 (fun n => rfl) H
  · replace H := H.2 hc
    have c1 := H.1
    refine Ek.chk 2 (fun n => rfl) c1 ?_
    replace H := H.2
    obtain ⟨p2, e3, H⟩ := H
    show Ek _ _ _ (va_rf (mP h v0 3) :: _) _ _
    rw [e3]
    have c4 := H.1
    refine Ek.chk 3 (fun n => rfl) c4 ?_
    replace H := H.2
    refine Ek.chk 3 (fun n => rfl) c1 ?_
    obtain ⟨p5, e6, H⟩ := H
    show Ek _ _ _ (va_rf (mP h v0 2) :: _) _ _
    rw [e6]
    have c7 := H.1
    refine Ek.chk 2 (fun n => rfl) c7 ?_
    replace H := H.2
    obtain ⟨p8, e9, H⟩ := H
    show Ek _ _ _ (va_rf (mP h p5 (v4.toNatClampNeg)) :: _) _ _
    rw [e9]
    have c10 := H.1
    refine Ek.chk 2 (fun n => rfl) c10 ?_
    replace H := H.2
    have c12 := H.1
    refine Ek.chk 3 (fun n => rfl) c12 ?_
    replace H := H.2
    let h11 : mH := wI h p2 (v4.toNatClampNeg) ((mI h p2 (v4.toNatClampNeg)) + (v2 - (mI h p8 (v1.toNatClampNeg))))
    replace H := H h11 rfl
    show Ek _ _ _ _ h11 _
    refine Ek.chk 2 (fun n => rfl) c1 ?_
    show Ek _ _ _ (va_rf (mP h v0 2) :: _) _ _
    rw [e6]
    refine Ek.chk 2 (fun n => rfl) c7 ?_
    show Ek _ _ _ (va_rf (mP h p5 (v4.toNatClampNeg)) :: _) _ _
    rw [e9]
    have c16 := H.1
    refine Ek.chk 3 (fun n => rfl) c16 ?_
    replace H := H.2
    let h15 : mH := wI h11 p8 (v1.toNatClampNeg) v2
    replace H := H h15 rfl
    show Ek _ _ _ _ h15 _
    exact Ek.go 2 (fun n => rfl) H

/-- RoundVotes$Setup.proposer(II)I, from 0 -/
set_option maxRecDepth 4000 in
theorem T28 {a0 : Nat} {a1 : Int32} {a2 : Int32} {h : mH} {K : Option Value → mH → Prop} (H : (mTg h a0 = 9) ∧ ((¬ (mI h a0 0) = 0) ∧ (K (some (.int ((a1 + a2) - (a1 + a2) / (mI h a0 0) * (mI h a0 0)))) h))) : Ek 28 0 [some (.ref a0), some (.int a1), some (.int a2)] [] h K := by
  have c1 := H.1
  refine Ek.chk 5 (fun n => rfl) c1 ?_
  replace H := H.2
  have c2 := H.1
  refine Ek.nch 1 (fun n => rfl) c2 ?_
  replace H := H.2
  exact Ek.ret 1 (fun n => rfl) H

/-- RoundVotes$Setup.ownValue(III)I, from 0 -/
set_option maxRecDepth 4000 in
theorem T29 {a0 : Nat} {a1 : Int32} {a2 : Int32} {a3 : Int32} {h : mH} {K : Option Value → mH → Prop} (H : (mTg h a0 = 9) ∧ (K (some (.int (2 + (2 * (((((mI h a0 1) ^^^ (7919 * a1)) ^^^ (104729 * a2)) ^^^ (1299709 * a3)) &&& 1048575))))) h)) : Ek 29 0 [some (.ref a0), some (.int a1), some (.int a2), some (.int a3), none] [] h K := by
  have c1 := H.1
  refine Ek.chk 2 (fun n => rfl) c1 ?_
  replace H := H.2
  exact Ek.ret 21 (fun n => rfl) H

/-- RoundVotes$Setup.weightOfAll(II)I, from 0 -/
set_option maxRecDepth 4000 in
theorem T30 {a0 : Nat} {a1 : Int32} {a2 : Int32} {h : mH} {K : Option Value → mH → Prop} (H : Ek 30 5 [some (.ref a0), some (.int a1), some (.int a2), some (.int 0), some (.int 0)] [] h K) : Ek 30 0 [some (.ref a0), some (.int a1), some (.int a2), none, none] [] h K := by
  exact Ek.go 4 (fun n => rfl) H

/-- RoundVotes$Setup.weightOfAll(II)I, from 5 -/
set_option maxRecDepth 4000 in
theorem T30_5 {v0 : Nat} {v1 : Int32} {v2 : Int32} {v3 : Int32} {v4 : Int32} {h : mH} {K : Option Value → mH → Prop} (H : (mTg h v0 = 9) ∧ (((mI h v0 0) ≤ v4 → (K (some (.int v3)) h)) ∧ (¬ (mI h v0 0) ≤ v4 → ((((v1 >>> (v4 &&& 31)) &&& 1) = 1 → (∃ p2, mP h v0 2 = some p2 ∧ (((mTg h p2 = 23 ∨ mTg h p2 = 24 ∨ mTg h p2 = 25) ∧ ¬ v2 < 0 ∧ (v2.toNatClampNeg) < mLn h p2) ∧ (∃ p5, mP h p2 (v2.toNatClampNeg) = some p5 ∧ (((mTg h p5 = 20 ∨ mTg h p5 = 30) ∧ ¬ v4 < 0 ∧ (v4.toNatClampNeg) < mLn h p5) ∧ (Ek 30 5 [some (.ref v0), some (.int v1), some (.int v2), some (.int (v3 + (mI h p5 (v4.toNatClampNeg)))), some (.int (v4 + 1))] [] h K)))))) ∧ (¬ ((v1 >>> (v4 &&& 31)) &&& 1) = 1 → (Ek 30 5 [some (.ref v0), some (.int v1), some (.int v2), some (.int v3), some (.int (v4 + 1))] [] h K)))))) : Ek 30 5 [some (.ref v0), some (.int v1), some (.int v2), some (.int v3), some (.int v4)] [] h K := by
  have c1 := H.1
  refine Ek.chk 3 (fun n => rfl) c1 ?_
  replace H := H.2
  refine Ek.br 1 (fun n => rfl) (fun hc => ?_) (fun hc => ?_)
  · replace H := H.1 hc
    exact Ek.ret 2 (fun n => rfl) H
  · replace H := H.2 hc
    refine Ek.br 7 (fun n => rfl) (fun hc => ?_) (fun hc => ?_)
    · replace H := H.1 hc
      refine Ek.chk 3 (fun n => rfl) c1 ?_
      obtain ⟨p2, e3, H⟩ := H
      show Ek _ _ _ (va_rf (mP h v0 2) :: _) _ _
      rw [e3]
      have c4 := H.1
      refine Ek.chk 2 (fun n => rfl) c4 ?_
      replace H := H.2
      obtain ⟨p5, e6, H⟩ := H
      show Ek _ _ _ (va_rf (mP h p2 (v2.toNatClampNeg)) :: _) _ _
      rw [e6]
      have c7 := H.1
      refine Ek.chk 2 (fun n => rfl) c7 ?_
      replace H := H.2
      exact Ek.go 4 (fun n => rfl) H
    · replace H := H.2 hc
      exact Ek.go 2 (fun n => rfl) H

/-- RoundVotes$Mail.<init>()V, from 0 -/
set_option maxRecDepth 4000 in
theorem T31 {a0 : Nat} {h : mH} {K : Option Value → mH → Prop} (H : (¬ (12000 : Int32) < 0 ∧ ((12000 : Int32).toNatClampNeg) ≤ 1000000) ∧ (∀ h1, h1 = wN h 23 ((12000 : Int32).toNatClampNeg) → ((mTg h1 a0 = 5) ∧ (∀ h3, h3 = wP h1 a0 0 (some ((mTop h))) → (K none h3))))) : Ek 31 0 [some (.ref a0)] [] h K := by
  have c2 := H.1
  refine Ek.chk 5 (fun n => rfl) c2 ?_
  replace H := H.2
  let h1 : mH := wN h 23 ((12000 : Int32).toNatClampNeg)
  replace H := H h1 rfl
  show Ek _ _ _ _ h1 _
  have c4 := H.1
  refine Ek.chk 1 (fun n => rfl) c4 ?_
  replace H := H.2
  let h3 : mH := wP h1 a0 0 (some ((mTop h)))
  replace H := H h3 rfl
  show Ek _ _ _ _ h3 _
  exact Ek.ret 1 (fun n => rfl) H

/-- RoundVotes$Mail.post(LRoundVotes$Message;IZ)Z, from 0 -/
set_option maxRecDepth 4000 in
theorem T32 {a0 : Nat} {a1 : Nat} {a2 : Int32} {a3 : Int32} {h : mH} {K : Option Value → mH → Prop} (H : (mTg h a0 = 5) ∧ (((6000 : Int32) ≤ (mI h a0 2) → (K (some (.int 0)) h)) ∧ (¬ (6000 : Int32) ≤ (mI h a0 2) → (∃ p2, mP h a0 0 = some p2 ∧ ((mTg h p2 = 20 ∨ mTg h p2 = 23 ∨ mTg h p2 = 30) ∧ (((mI h a0 1) < (nI (mLn h p2)) → (((mTg h p2 = 23 ∨ mTg h p2 = 24 ∨ mTg h p2 = 25) ∧ ¬ (mI h a0 1) < 0 ∧ ((mI h a0 1).toNatClampNeg) < mLn h p2) ∧ ((mP h p2 ((mI h a0 1).toNatClampNeg) = none → (∀ h9, h9 = wN h 6 9 → ((((mTg h9 p2 = 23 ∧ mTg h9 ((mTop h)) = 6) ∨ (mTg h9 p2 = 24 ∧ mTg h9 ((mTop h)) = 7)) ∧ ¬ (mI h a0 1) < 0 ∧ ((mI h a0 1).toNatClampNeg) < mLn h9 p2) ∧ (∀ h10, h10 = wP h9 p2 ((mI h a0 1).toNatClampNeg) (some ((mTop h))) → (Ek 32 52 [some (.ref a0), some (.ref a1), some (.int a2), some (.int a3), none] [] h10 K))))) ∧ (∀ p7, mP h p2 ((mI h a0 1).toNatClampNeg) = some p7 → (Ek 32 52 [some (.ref a0), some (.ref a1), some (.int a2), some (.int a3), none] [] h K))))) ∧ (¬ (mI h a0 1) < (nI (mLn h p2)) → (K (some (.int 0)) h)))))))) : Ek 32 0 [some (.ref a0), some (.ref a1), some (.int a2), some (.int a3), none] [] h K := by
  have c1 := H.1
  refine Ek.chk 2 (fun n => rfl) c1 ?_
  replace H := H.2
  refine Ek.br 2 (fun n => rfl) (fun hc => ?_) (fun hc => ?_)
  · replace H := H.1 hc
    exact Ek.ret 2 (fun n => rfl) H
  · replace H := H.2 hc
    refine Ek.chk 2 (fun n => rfl) c1 ?_
    refine Ek.chk 2 (fun n => rfl) c1 ?_
    obtain ⟨p2, e3, H⟩ := H
    show Ek _ _ _ (va_rf (mP h a0 0) :: _) _ _
    rw [e3]
    have c4 := H.1
    refine Ek.chk 1 (fun n => rfl) c4 ?_
    replace H := H.2
    refine Ek.br 1 (fun n => rfl) (fun hc => ?_) (fun hc => ?_)
    · replace H := H.1 hc
      refine Ek.chk 2 (fun n => rfl) c1 ?_
      show Ek _ _ _ (va_rf (mP h a0 0) :: _) _ _
      rw [e3]
      refine Ek.chk 2 (fun n => rfl) c1 ?_
      have c6 := H.1
      refine Ek.chk 1 (fun n => rfl) c6 ?_
      replace H := H.2
      cases hp : mP h p2 ((mI h a0 1).toNatClampNeg) with
      | none =>
        rw [hp]
        replace H := H.1 hp
        refine Ek.chk 3 (fun n => rfl) c1 ?_
        show Ek _ _ _ (va_rf (mP h a0 0) :: _) _ _
        rw [e3]
        refine Ek.chk 2 (fun n => rfl) c1 ?_
        refine Ek.go 1 (fun n => rfl) ?_
        let h9 : mH := wN h 6 9
        replace H := H h9 rfl
        show Ek _ _ _ _ h9 _
        refine Ek.call 1 (fun n => rfl) ?_
        refine Ek.ret 3 (fun n => rfl) ?_
        have c11 := H.1
        refine Ek.chk 1 (fun n => rfl) c11 ?_
        replace H := H.2
        let h10 : mH := wP h9 p2 ((mI h a0 1).toNatClampNeg) (some ((mTop h)))
        replace H := H h10 rfl
        show Ek _ _ _ _ h10 _
        exact H
      | some p7 =>
        rw [hp]
        replace H := H.2 p7 hp
        exact Ek.go 1 (fun n => rfl) H
    · replace H := H.2 hc
      exact Ek.ret 2 (fun n => rfl) H

/-- RoundVotes$Mail.post(LRoundVotes$Message;IZ)Z, from 52 -/
set_option maxRecDepth 4000 in
theorem T32_52 {v0 : Nat} {v1 : Nat} {v2 : Int32} {v3 : Int32} {h : mH} {K : Option Value → mH → Prop} (H : (mTg h v0 = 5) ∧ (∃ p2, mP h v0 0 = some p2 ∧ (((mTg h p2 = 23 ∨ mTg h p2 = 24 ∨ mTg h p2 = 25) ∧ ¬ (mI h v0 1) < 0 ∧ ((mI h v0 1).toNatClampNeg) < mLn h p2) ∧ (∃ p5, mP h p2 ((mI h v0 1).toNatClampNeg) = some p5 ∧ ((mTg h p5 = 6) ∧ ((mTg h v1 = 6) ∧ (∀ h9, h9 = wI h p5 0 (mI h v1 0) → (∀ h10, h10 = wI h9 p5 1 (mI h9 v1 1) → (∀ h11, h11 = wI h10 p5 2 (mI h10 v1 2) → (∀ h12, h12 = wI h11 p5 3 (mI h11 v1 3) → (∀ h13, h13 = wI h12 p5 4 (mI h12 v1 4) → (∀ h14, h14 = wI h13 p5 5 (mI h13 v1 5) → (∀ h15, h15 = wI h14 p5 6 (mI h14 v1 6) → (∀ h16, h16 = wI h15 p5 7 v2 → ((mTg h p5 = 6 ∧ (v3 = 0 ∨ v3 = 1)) ∧ (∀ h17, h17 = wI h16 p5 8 v3 → (∀ h19, h19 = wI h17 v0 1 ((mI h17 v0 1) + 1) → (∀ h20, h20 = wI h19 v0 2 ((mI h19 v0 2) + 1) → (K (some (.int 1)) h20))))))))))))))))))) : Ek 32 52 [some (.ref v0), some (.ref v1), some (.int v2), some (.int v3), none] [] h K := by
  have c1 := H.1
  refine Ek.chk 2 (fun n => rfl) c1 ?_
  replace H := H.2
  obtain ⟨p2, e3, H⟩ := H
  show Ek _ _ _ (va_rf (mP h v0 0) :: _) _ _
  rw [e3]
  refine Ek.chk 2 (fun n => rfl) c1 ?_
  have c4 := H.1
  refine Ek.chk 1 (fun n => rfl) c4 ?_
  replace H := H.2
  obtain ⟨p5, e6, H⟩ := H
  show Ek _ _ _ (va_rf (mP h p2 ((mI h v0 1).toNatClampNeg)) :: _) _ _
  rw [e6]
  have c7 := H.1
  refine Ek.callT 3 (fun n => rfl) c7 ?_
  replace H := H.2
  have c8 := H.1
  refine Ek.chk 3 (fun n => rfl) c8 ?_
  replace H := H.2
  refine Ek.chk 1 (fun n => rfl) c7 ?_
  let h9 : mH := wI h p5 0 (mI h v1 0)
  replace H := H h9 rfl
  show Ek _ _ _ _ h9 _
  refine Ek.chk 3 (fun n => rfl) c8 ?_
  refine Ek.chk 1 (fun n => rfl) c7 ?_
  let h10 : mH := wI h9 p5 1 (mI h9 v1 1)
  replace H := H h10 rfl
  show Ek _ _ _ _ h10 _
  refine Ek.chk 3 (fun n => rfl) c8 ?_
  refine Ek.chk 1 (fun n => rfl) c7 ?_
  let h11 : mH := wI h10 p5 2 (mI h10 v1 2)
  replace H := H h11 rfl
  show Ek _ _ _ _ h11 _
  refine Ek.chk 3 (fun n => rfl) c8 ?_
  refine Ek.chk 1 (fun n => rfl) c7 ?_
  let h12 : mH := wI h11 p5 3 (mI h11 v1 3)
  replace H := H h12 rfl
  show Ek _ _ _ _ h12 _
  refine Ek.chk 3 (fun n => rfl) c8 ?_
  refine Ek.chk 1 (fun n => rfl) c7 ?_
  let h13 : mH := wI h12 p5 4 (mI h12 v1 4)
  replace H := H h13 rfl
  show Ek _ _ _ _ h13 _
  refine Ek.chk 3 (fun n => rfl) c8 ?_
  refine Ek.chk 1 (fun n => rfl) c7 ?_
  let h14 : mH := wI h13 p5 5 (mI h13 v1 5)
  replace H := H h14 rfl
  show Ek _ _ _ _ h14 _
  refine Ek.chk 3 (fun n => rfl) c8 ?_
  refine Ek.chk 1 (fun n => rfl) c7 ?_
  let h15 : mH := wI h14 p5 6 (mI h14 v1 6)
  replace H := H h15 rfl
  show Ek _ _ _ _ h15 _
  refine Ek.ret 1 (fun n => rfl) ?_
  refine Ek.chk 3 (fun n => rfl) c7 ?_
  let h16 : mH := wI h15 p5 7 v2
  replace H := H h16 rfl
  show Ek _ _ _ _ h16 _
  have c18 := H.1
  refine Ek.chk 3 (fun n => rfl) c18 ?_
  replace H := H.2
  let h17 : mH := wI h16 p5 8 v3
  replace H := H h17 rfl
  show Ek _ _ _ _ h17 _
  refine Ek.chk 3 (fun n => rfl) c1 ?_
  refine Ek.chk 3 (fun n => rfl) c1 ?_
  let h19 : mH := wI h17 v0 1 ((mI h17 v0 1) + 1)
  replace H := H h19 rfl
  show Ek _ _ _ _ h19 _
  refine Ek.chk 3 (fun n => rfl) c1 ?_
  refine Ek.chk 3 (fun n => rfl) c1 ?_
  let h20 : mH := wI h19 v0 2 ((mI h19 v0 2) + 1)
  replace H := H h20 rfl
  show Ek _ _ _ _ h20 _
  exact Ek.ret 2 (fun n => rfl) H

/-- RoundVotes$Mail.dropUpTo(I)V, from 0 -/
set_option maxRecDepth 4000 in
theorem T33 {a0 : Nat} {a1 : Int32} {h : mH} {K : Option Value → mH → Prop} (H : Ek 33 4 [some (.ref a0), some (.int a1), some (.int 0), some (.int 0), none] [] h K) : Ek 33 0 [some (.ref a0), some (.int a1), none, none, none] [] h K := by
  exact Ek.go 4 (fun n => rfl) H

/-- RoundVotes$Mail.dropUpTo(I)V, from 4 -/
set_option maxRecDepth 4000 in
theorem T33_4 {v0 : Nat} {v1 : Int32} {v2 : Int32} {v3 : Int32} {h : mH} {K : Option Value → mH → Prop} (H : (mTg h v0 = 5) ∧ (((mI h v0 1) ≤ v3 → (∀ h2, h2 = wI h v0 1 v2 → (K none h2))) ∧ (¬ (mI h v0 1) ≤ v3 → (∃ p3, mP h v0 0 = some p3 ∧ (((mTg h p3 = 23 ∨ mTg h p3 = 24 ∨ mTg h p3 = 25) ∧ ¬ v3 < 0 ∧ (v3.toNatClampNeg) < mLn h p3) ∧ (∃ p6, mP h p3 (v3.toNatClampNeg) = some p6 ∧ ((mTg h p6 = 6) ∧ (((mI h p6 7) ≤ v1 → (Ek 33 4 [some (.ref v0), some (.int v1), some (.int v2), some (.int (v3 + 1)), some (.ref p6)] [] h K)) ∧ (¬ (mI h p6 7) ≤ v1 → (((mTg h p3 = 23 ∨ mTg h p3 = 24 ∨ mTg h p3 = 25) ∧ ¬ v2 < 0 ∧ (v2.toNatClampNeg) < mLn h p3) ∧ (∃ p12, mP h p3 (v2.toNatClampNeg) = some p12 ∧ ((((mTg h p3 = 23 ∧ mTg h p12 = 6) ∨ (mTg h p3 = 24 ∧ mTg h p12 = 7)) ∧ ¬ v3 < 0 ∧ (v3.toNatClampNeg) < mLn h p3) ∧ (∀ h14, h14 = wP h p3 (v3.toNatClampNeg) (some p12) → (∃ p16, mP h14 v0 0 = some p16 ∧ ((((mTg h p16 = 23 ∧ mTg h p6 = 6) ∨ (mTg h p16 = 24 ∧ mTg h p6 = 7)) ∧ ¬ v2 < 0 ∧ (v2.toNatClampNeg) < mLn h p16) ∧ (∀ h18, h18 = wP h14 p16 (v2.toNatClampNeg) (some p6) → (Ek 33 4 [some (.ref v0), some (.int v1), some (.int (v2 + 1)), some (.int (v3 + 1)), some (.ref p6)] [] h18 K))))))))))))))))) : Ek 33 4 [some (.ref v0), some (.int v1), some (.int v2), some (.int v3), none] [] h K := by
  have c1 := H.1
  refine Ek.chk 3 (fun n => rfl) c1 ?_
  replace H := H.2
  refine Ek.br 1 (fun n => rfl) (fun hc => ?_) (fun hc => ?_)
  · replace H := H.1 hc
    refine Ek.chk 3 (fun n => rfl) c1 ?_
    let h2 : mH := wI h v0 1 v2
    replace H := H h2 rfl
    show Ek _ _ _ _ h2 _
    exact Ek.ret 1 (fun n => rfl) H
  · replace H := H.2 hc
    refine Ek.chk 2 (fun n => rfl) c1 ?_
    obtain ⟨p3, e4, H⟩ := H
    show Ek _ _ _ (va_rf (mP h v0 0) :: _) _ _
    rw [e4]
    have c5 := H.1
    refine Ek.chk 2 (fun n => rfl) c5 ?_
    replace H := H.2
    obtain ⟨p6, e7, H⟩ := H
    show Ek _ _ _ (va_rf (mP h p3 (v3.toNatClampNeg)) :: _) _ _
    rw [e7]
    have c8 := H.1
    refine Ek.chk 5 (fun n => rfl) c8 ?_
    replace H := H.2
    refine Ek.br 2 (fun n => rfl) (fun hc => ?_) (fun hc => ?_)
    · replace H := H.1 hc
      exact Ek.go 2 (fun n => rfl) H
    · replace H := H.2 hc
      refine Ek.chk 2 (fun n => rfl) c1 ?_
      show Ek _ _ _ (va_rf (mP h v0 0) :: _) _ _
      rw [e4]
      refine Ek.chk 3 (fun n => rfl) c1 ?_
      show Ek _ _ _ (va_rf (mP h v0 0) :: _) _ _
      rw [e4]
      have c11 := H.1
      refine Ek.chk 2 (fun n => rfl) c11 ?_
      replace H := H.2
      obtain ⟨p12, e13, H⟩ := H
      show Ek _ _ _ (va_rf (mP h p3 (v2.toNatClampNeg)) :: _) _ _
      rw [e13]
      have c15 := H.1
      refine Ek.chk 1 (fun n => rfl) c15 ?_
      replace H := H.2
      let h14 : mH := wP h p3 (v3.toNatClampNeg) (some p12)
      replace H := H h14 rfl
      show Ek _ _ _ _ h14 _
      refine Ek.chk 2 (fun n => rfl) c1 ?_
      obtain ⟨p16, e17, H⟩ := H
      show Ek _ _ _ (va_rf (mP h14 v0 0) :: _) _ _
      rw [e17]
      have c19 := H.1
      refine Ek.chk 3 (fun n => rfl) c19 ?_
      replace H := H.2
      let h18 : mH := wP h14 p16 (v2.toNatClampNeg) (some p6)
      replace H := H h18 rfl
      show Ek _ _ _ _ h18 _
      exact Ek.go 3 (fun n => rfl) H

/-- RoundVotes$Sendings.<init>()V, from 0 -/
set_option maxRecDepth 4000 in
theorem T34 {a0 : Nat} {h : mH} {K : Option Value → mH → Prop} (H : ∀ h1, h1 = wN h 1 4 → (Ek 7 0 [some (.ref (mTop h)), some (.int 1)] [] h1 (fun r h2 => r = none ∧ ((mTg h2 a0 = 8) ∧ (∀ h3, h3 = wP h2 a0 2 (some ((mTop h))) → (K none h3)))))) : Ek 34 0 [some (.ref a0)] [] h K := by
  refine Ek.go 4 (fun n => rfl) ?_
  let h1 : mH := wN h 1 4
  replace H := H h1 rfl
  show Ek _ _ _ _ h1 _
  refine Ek.call 2 (fun n => rfl) ?_
  refine Ek.mono H ?_
  rintro _ h2 ⟨rfl, H⟩
  have c4 := H.1
  refine Ek.chk 1 (fun n => rfl) c4 ?_
  replace H := H.2
  let h3 : mH := wP h2 a0 2 (some ((mTop h)))
  replace H := H h3 rfl
  show Ek _ _ _ _ h3 _
  exact Ek.ret 1 (fun n => rfl) H

/-- RoundVotes$Sendings.add(LRoundVotes$Message;)V, from 0 -/
set_option maxRecDepth 4000 in
theorem T35 {a0 : Nat} {a1 : Nat} {h : mH} {K : Option Value → mH → Prop} (H : (mTg h a0 = 8) ∧ (∀ h2, h2 = wI h a0 0 ((mI h a0 0) + 1) → (∃ p3, mP h a0 2 = some p3 ∧ ((mTg h a1 = 6) ∧ ((mTg h p3 = 1) ∧ (∃ p7, mP h p3 1 = some p7 ∧ (((mTg h p7 = 20 ∨ mTg h p7 = 30) ∧ ¬ (((((mI h2 a1 3) * (mI h2 p3 0)) + 0) * 3) + (mI h2 a1 4)) < 0 ∧ ((((((mI h2 a1 3) * (mI h2 p3 0)) + 0) * 3) + (mI h2 a1 4)).toNatClampNeg) < mLn h p7) ∧ (((mI h2 p7 ((((((mI h2 a1 3) * (mI h2 p3 0)) + 0) * 3) + (mI h2 a1 4)).toNatClampNeg)) = (-2) → (Ek 11 0 [some (.ref p3), some (.int (mI h2 a1 3)), some (.int 0), some (.int (mI h2 a1 4)), some (.int (mI h2 a1 5)), some (.int (mI h2 a1 6))] [] h2 (fun r h11 => r = none ∧ (K none h11)))) ∧ (¬ (mI h2 p7 ((((((mI h2 a1 3) * (mI h2 p3 0)) + 0) * 3) + (mI h2 a1 4)).toNatClampNeg)) = (-2) → (((mI h2 p7 ((((((mI h2 a1 3) * (mI h2 p3 0)) + 0) * 3) + (mI h2 a1 4)).toNatClampNeg)) = (-3) → (K none h2)) ∧ (¬ (mI h2 p7 ((((((mI h2 a1 3) * (mI h2 p3 0)) + 0) * 3) + (mI h2 a1 4)).toNatClampNeg)) = (-3) → (((mI h2 p7 ((((((mI h2 a1 3) * (mI h2 p3 0)) + 0) * 3) + (mI h2 a1 4)).toNatClampNeg)) = (mI h2 a1 5) → (K none h2)) ∧ (¬ (mI h2 p7 ((((((mI h2 a1 3) * (mI h2 p3 0)) + 0) * 3) + (mI h2 a1 4)).toNatClampNeg)) = (mI h2 a1 5) → (Ek 11 0 [some (.ref p3), some (.int (mI h2 a1 3)), some (.int 0), some (.int (mI h2 a1 4)), some (.int (-3)), some (.int (mI h2 a1 6))] [] h2 (fun r h13 => r = none ∧ ((mTg h13 a0 = 8) ∧ (∀ h15, h15 = wI h13 a0 1 ((mI h13 a0 1) + 1) → (K none h15)))))))))))))))))) : Ek 35 0 [some (.ref a0), some (.ref a1), none] [] h K := by
  have c1 := H.1
  refine Ek.chk 3 (fun n => rfl) c1 ?_
  replace H := H.2
  refine Ek.chk 3 (fun n => rfl) c1 ?_
  let h2 : mH := wI h a0 0 ((mI h a0 0) + 1)
  replace H := H h2 rfl
  show Ek _ _ _ _ h2 _
  refine Ek.chk 2 (fun n => rfl) c1 ?_
  obtain ⟨p3, e4, H⟩ := H
  show Ek _ _ _ (va_rf (mP h a0 2) :: _) _ _
  rw [e4]
  have c5 := H.1
  refine Ek.chk 2 (fun n => rfl) c5 ?_
  replace H := H.2
  refine Ek.chk 3 (fun n => rfl) c5 ?_
  have c6 := H.1
  refine Ek.callT 0 (fun n => rfl) c6 ?_
  replace H := H.2
  refine Ek.chk 2 (fun n => rfl) c6 ?_
  obtain ⟨p7, e8, H⟩ := H
  show Ek _ _ _ (va_rf (mP h p3 1) :: _) _ _
  rw [e8]
  refine Ek.chk 3 (fun n => rfl) c6 ?_
  have c9 := H.1
  refine Ek.chk 8 (fun n => rfl) c9 ?_
  replace H := H.2
  refine Ek.ret 1 (fun n => rfl) ?_
  refine Ek.br 4 (fun n => rfl) (fun hc => ?_) (fun hc => ?_)
  · replace H := H.1 hc
    refine Ek.chk 2 (fun n => rfl) c1 ?_
    show Ek _ _ _ (va_rf (mP h a0 2) :: _) _ _
    rw [e4]
    refine Ek.chk 2 (fun n => rfl) c5 ?_
    refine Ek.chk 3 (fun n => rfl) c5 ?_
    refine Ek.chk 2 (fun n => rfl) c5 ?_
    refine Ek.chk 2 (fun n => rfl) c5 ?_
    refine Ek.callT 0 (fun n => rfl) c6 ?_
    refine Ek.mono H ?_
    rintro _ h11 ⟨rfl, H⟩
    exact Ek.ret 2 (fun n => rfl) H
  · replace H := H.2 hc
    refine Ek.br 3 (fun n => rfl) (fun hc => ?_) (fun hc => ?_)
    · replace H := H.1 hc
      exact Ek.ret 1 (fun n => rfl) H
    · replace H := H.2 hc
      refine Ek.chk 3 (fun n => rfl) c5 ?_
      refine Ek.br 1 (fun n => rfl) (fun hc => ?_) (fun hc => ?_)
      · replace H := H.1 hc
        exact Ek.ret 1 (fun n => rfl) H
      · replace H := H.2 hc
        refine Ek.chk 2 (fun n => rfl) c1 ?_
        show Ek _ _ _ (va_rf (mP h a0 2) :: _) _ _
        rw [e4]
        refine Ek.chk 2 (fun n => rfl) c5 ?_
        refine Ek.chk 3 (fun n => rfl) c5 ?_
        refine Ek.chk 3 (fun n => rfl) c5 ?_
        refine Ek.callT 0 (fun n => rfl) c6 ?_
        refine Ek.mono H ?_
        rintro _ h13 ⟨rfl, H⟩
        have c14 := H.1
        refine Ek.chk 3 (fun n => rfl) c14 ?_
        replace H := H.2
        refine Ek.chk 3 (fun n => rfl) c14 ?_
        let h15 : mH := wI h13 a0 1 ((mI h13 a0 1) + 1)
        replace H := H h15 rfl
        show Ek _ _ _ _ h15 _
        exact Ek.ret 1 (fun n => rfl) H

