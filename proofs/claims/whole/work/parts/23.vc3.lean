/-! ===== what a run needs, method by method (61 to 90) ===== -/
/-- RoundVotes.<init>(II)V, from 0 -/
set_option maxRecDepth 4000 in
theorem T61 {a0 : Nat} {a1 : Int32} {a2 : Int32} {h : mH} {K : Option Value → mH → Prop} (H : ∀ h1, h1 = wN h 5 3 → ((¬ (12000 : Int32) < 0 ∧ ((12000 : Int32).toNatClampNeg) ≤ 1000000) ∧ (∀ h2, h2 = wN h1 23 ((12000 : Int32).toNatClampNeg) → ((mTg h2 ((mTop h)) = 5) ∧ (∀ h4, h4 = wP h2 ((mTop h)) 0 (some ((mTop h1))) → ((mTg h2 a0 = 11) ∧ (∀ h6, h6 = wP h4 a0 2 (some ((mTop h))) → (∀ h8, h8 = wN h6 10 4 → ((¬ (60 : Int32) < 0 ∧ ((60 : Int32).toNatClampNeg) ≤ 1000000) ∧ (∀ h9, h9 = wN h8 20 ((60 : Int32).toNatClampNeg) → ((mTg h9 ((mTop h6)) = 10) ∧ (∀ h11, h11 = wP h9 ((mTop h6)) 0 (some ((mTop h8))) → (∀ h13, h13 = wN h11 20 ((60 : Int32).toNatClampNeg) → ((mTg h13 ((mTop h6)) = 10) ∧ (∀ h14, h14 = wP h13 ((mTop h6)) 1 (some ((mTop h11))) → (∀ h16, h16 = wN h14 20 ((60 : Int32).toNatClampNeg) → ((mTg h16 ((mTop h6)) = 10) ∧ (∀ h17, h17 = wP h16 ((mTop h6)) 2 (some ((mTop h14))) → ((mTg h16 a0 = 11) ∧ (∀ h19, h19 = wP h17 a0 3 (some ((mTop h6))) → (∀ h21, h21 = wN h19 4 2 → ((¬ (1200 : Int32) < 0 ∧ ((1200 : Int32).toNatClampNeg) ≤ 1000000) ∧ (∀ h22, h22 = wN h21 20 ((1200 : Int32).toNatClampNeg) → ((mTg h22 ((mTop h19)) = 4) ∧ (∀ h24, h24 = wP h22 ((mTop h19)) 0 (some ((mTop h21))) → ((mTg h22 a0 = 11) ∧ (∀ h26, h26 = wP h24 a0 4 (some ((mTop h19))) → (∀ h28, h28 = wN h26 9 4 → (Ek 26 0 [some (.ref (mTop h26)), some (.int a1), some (.int a2), none] [] h28 (fun r h29 => r = none ∧ ((mTg h29 a0 = 11) ∧ (∀ h30, h30 = wP h29 a0 0 (some ((mTop h26))) → (∃ p32, mP h30 a0 0 = some p32 ∧ ((mTg h29 p32 = 9) ∧ ((¬ (mI h30 p32 0) < 0 ∧ ((mI h30 p32 0).toNatClampNeg) ≤ 1000000) ∧ (∀ h35, h35 = wN h30 24 ((mI h30 p32 0).toNatClampNeg) → ((mTg h35 a0 = 11) ∧ (∀ h37, h37 = wP h35 a0 1 (some ((mTop h30))) → (Ek 61 66 [some (.ref a0), some (.int a1), some (.int a2), some (.int 0)] [] h37 K))))))))))))))))))))))))))))))))))))))) : Ek 61 0 [some (.ref a0), some (.int a1), some (.int a2), none] [] h K := by
  refine Ek.go 4 (fun n => rfl) ?_
  let h1 : mH := wN h 5 3
  replace H := H h1 rfl
  show Ek _ _ _ _ h1 _
  refine Ek.call 1 (fun n => rfl) ?_
  have c3 := H.1
  refine Ek.chk 5 (fun n => rfl) c3 ?_
  replace H := H.2
  let h2 : mH := wN h1 23 ((12000 : Int32).toNatClampNeg)
  replace H := H h2 rfl
  show Ek _ _ _ _ h2 _
  have c5 := H.1
  refine Ek.chk 1 (fun n => rfl) c5 ?_
  replace H := H.2
  let h4 : mH := wP h2 ((mTop h)) 0 (some ((mTop h1)))
  replace H := H h4 rfl
  show Ek _ _ _ _ h4 _
  refine Ek.ret 1 (fun n => rfl) ?_
  have c7 := H.1
  refine Ek.chk 1 (fun n => rfl) c7 ?_
  replace H := H.2
  let h6 : mH := wP h4 a0 2 (some ((mTop h)))
  replace H := H h6 rfl
  show Ek _ _ _ _ h6 _
  refine Ek.go 2 (fun n => rfl) ?_
  let h8 : mH := wN h6 10 4
  replace H := H h8 rfl
  show Ek _ _ _ _ h8 _
  refine Ek.call 1 (fun n => rfl) ?_
  have c10 := H.1
  refine Ek.chk 5 (fun n => rfl) c10 ?_
  replace H := H.2
  let h9 : mH := wN h8 20 ((60 : Int32).toNatClampNeg)
  replace H := H h9 rfl
  show Ek _ _ _ _ h9 _
  have c12 := H.1
  refine Ek.chk 1 (fun n => rfl) c12 ?_
  replace H := H.2
  let h11 : mH := wP h9 ((mTop h6)) 0 (some ((mTop h8)))
  replace H := H h11 rfl
  show Ek _ _ _ _ h11 _
  refine Ek.chk 3 (fun n => rfl) c10 ?_
  let h13 : mH := wN h11 20 ((60 : Int32).toNatClampNeg)
  replace H := H h13 rfl
  show Ek _ _ _ _ h13 _
  have c15 := H.1
  refine Ek.chk 1 (fun n => rfl) c15 ?_
  replace H := H.2
  let h14 : mH := wP h13 ((mTop h6)) 1 (some ((mTop h11)))
  replace H := H h14 rfl
  show Ek _ _ _ _ h14 _
  refine Ek.chk 3 (fun n => rfl) c10 ?_
  let h16 : mH := wN h14 20 ((60 : Int32).toNatClampNeg)
  replace H := H h16 rfl
  show Ek _ _ _ _ h16 _
  have c18 := H.1
  refine Ek.chk 1 (fun n => rfl) c18 ?_
  replace H := H.2
  let h17 : mH := wP h16 ((mTop h6)) 2 (some ((mTop h14)))
  replace H := H h17 rfl
  show Ek _ _ _ _ h17 _
  refine Ek.ret 1 (fun n => rfl) ?_
  have c20 := H.1
  refine Ek.chk 1 (fun n => rfl) c20 ?_
  replace H := H.2
  let h19 : mH := wP h17 a0 3 (some ((mTop h6)))
  replace H := H h19 rfl
  show Ek _ _ _ _ h19 _
  refine Ek.go 2 (fun n => rfl) ?_
  let h21 : mH := wN h19 4 2
  replace H := H h21 rfl
  show Ek _ _ _ _ h21 _
  refine Ek.call 1 (fun n => rfl) ?_
  have c23 := H.1
  refine Ek.chk 5 (fun n => rfl) c23 ?_
  replace H := H.2
  let h22 : mH := wN h21 20 ((1200 : Int32).toNatClampNeg)
  replace H := H h22 rfl
  show Ek _ _ _ _ h22 _
  have c25 := H.1
  refine Ek.chk 1 (fun n => rfl) c25 ?_
  replace H := H.2
  let h24 : mH := wP h22 ((mTop h19)) 0 (some ((mTop h21)))
  replace H := H h24 rfl
  show Ek _ _ _ _ h24 _
  refine Ek.ret 1 (fun n => rfl) ?_
  have c27 := H.1
  refine Ek.chk 1 (fun n => rfl) c27 ?_
  replace H := H.2
  let h26 : mH := wP h24 a0 4 (some ((mTop h19)))
  replace H := H h26 rfl
  show Ek _ _ _ _ h26 _
  refine Ek.go 2 (fun n => rfl) ?_
  let h28 : mH := wN h26 9 4
  replace H := H h28 rfl
  show Ek _ _ _ _ h28 _
  refine Ek.call 3 (fun n => rfl) ?_
  refine Ek.mono H ?_
  rintro _ h29 ⟨rfl, H⟩
  have c31 := H.1
  refine Ek.chk 1 (fun n => rfl) c31 ?_
  replace H := H.2
  let h30 : mH := wP h29 a0 0 (some ((mTop h26)))
  replace H := H h30 rfl
  show Ek _ _ _ _ h30 _
  refine Ek.chk 3 (fun n => rfl) c31 ?_
  obtain ⟨p32, e33, H⟩ := H
  show Ek _ _ _ (va_rf (mP h30 a0 0) :: _) _ _
  rw [e33]
  have c34 := H.1
  refine Ek.chk 1 (fun n => rfl) c34 ?_
  replace H := H.2
  have c36 := H.1
  refine Ek.chk 1 (fun n => rfl) c36 ?_
  replace H := H.2
  let h35 : mH := wN h30 24 ((mI h30 p32 0).toNatClampNeg)
  replace H := H h35 rfl
  show Ek _ _ _ _ h35 _
  have c38 := H.1
  refine Ek.chk 1 (fun n => rfl) c38 ?_
  replace H := H.2
  let h37 : mH := wP h35 a0 1 (some ((mTop h30)))
  replace H := H h37 rfl
  show Ek _ _ _ _ h37 _
  exact Ek.go 2 (fun n => rfl) H

/-- RoundVotes.<init>(II)V, from 66 -/
set_option maxRecDepth 4000 in
theorem T61_66 {v0 : Nat} {v1 : Int32} {v2 : Int32} {v3 : Int32} {h : mH} {K : Option Value → mH → Prop} (H : (mTg h v0 = 11) ∧ (∃ p2, mP h v0 0 = some p2 ∧ ((mTg h p2 = 9) ∧ (((mI h p2 0) ≤ v3 → (K none h)) ∧ (¬ (mI h p2 0) ≤ v3 → (∃ p5, mP h v0 1 = some p5 ∧ (∀ h7, h7 = wN h 7 18 → ((mTg h7 v0 = 11) ∧ (∃ p9, mP h7 v0 0 = some p9 ∧ (Ek 36 0 [some (.ref (mTop h)), some (.int v3), some (.ref p9)] [] h7 (fun r h11 => r = none ∧ ((((mTg h11 p5 = 23 ∧ mTg h11 ((mTop h)) = 6) ∨ (mTg h11 p5 = 24 ∧ mTg h11 ((mTop h)) = 7)) ∧ ¬ v3 < 0 ∧ (v3.toNatClampNeg) < mLn h11 p5) ∧ (∀ h12, h12 = wP h11 p5 (v3.toNatClampNeg) (some ((mTop h))) → (Ek 61 66 [some (.ref v0), some (.int v1), some (.int v2), some (.int (v3 + 1))] [] h12 K)))))))))))))) : Ek 61 66 [some (.ref v0), some (.int v1), some (.int v2), some (.int v3)] [] h K := by
  have c1 := H.1
  refine Ek.chk 3 (fun n => rfl) c1 ?_
  replace H := H.2
  obtain ⟨p2, e3, H⟩ := H
  show Ek _ _ _ (va_rf (mP h v0 0) :: _) _ _
  rw [e3]
  have c4 := H.1
  refine Ek.chk 1 (fun n => rfl) c4 ?_
  replace H := H.2
  refine Ek.br 1 (fun n => rfl) (fun hc => ?_) (fun hc => ?_)
  · replace H := H.1 hc
    exact Ek.ret 1 (fun n => rfl) H
  · replace H := H.2 hc
    refine Ek.chk 2 (fun n => rfl) c1 ?_
    obtain ⟨p5, e6, H⟩ := H
    show Ek _ _ _ (va_rf (mP h v0 1) :: _) _ _
    rw [e6]
    refine Ek.go 2 (fun n => rfl) ?_
    let h7 : mH := wN h 7 18
    replace H := H h7 rfl
    show Ek _ _ _ _ h7 _
    have c8 := H.1
    refine Ek.chk 4 (fun n => rfl) c8 ?_
    replace H := H.2
    obtain ⟨p9, e10, H⟩ := H
    show Ek _ _ _ (va_rf (mP h7 v0 0) :: _) _ _
    rw [e10]
    refine Ek.call 0 (fun n => rfl) ?_
    refine Ek.mono H ?_
    rintro _ h11 ⟨rfl, H⟩
    have c13 := H.1
    refine Ek.chk 1 (fun n => rfl) c13 ?_
    replace H := H.2
    let h12 : mH := wP h11 p5 (v3.toNatClampNeg) (some ((mTop h)))
    replace H := H h12 rfl
    show Ek _ _ _ _ h12 _
    exact Ek.go 2 (fun n => rfl) H

/-- RoundVotes.weight(II)I, from 0 -/
set_option maxRecDepth 4000 in
theorem T62 {a0 : Nat} {a1 : Int32} {a2 : Int32} {h : mH} {K : Option Value → mH → Prop} (H : (mTg h a0 = 11) ∧ ((a1 < 0 → (K (some (.int (-1))) h)) ∧ (¬ a1 < 0 → (∃ p2, mP h a0 0 = some p2 ∧ ((mTg h p2 = 9) ∧ (((mI h p2 0) ≤ a1 → (K (some (.int (-1))) h)) ∧ (¬ (mI h p2 0) ≤ a1 → ((a2 < 1 → (K (some (.int (-1))) h)) ∧ (¬ a2 < 1 → ((a2 ≤ 1000000 → (((mI h a0 5) = 0 → (Ek 27 0 [some (.ref p2), some (.int a1), some (.int a2), some (.int 1), none] [] h (fun r h6 => r = none ∧ (K (some (.int 1)) h6)))) ∧ (¬ (mI h a0 5) = 0 → (Ek 64 0 [some (.ref a0), none, none] [] h (fun r h7 => ∃ x8 : Int32, r = some (.int x8) ∧ ((mTg h7 a0 = 11) ∧ (∃ p10, mP h7 a0 0 = some p10 ∧ ((mTg h7 p10 = 9) ∧ (Ek 27 0 [some (.ref p10), some (.int a1), some (.int a2), some (.int (x8 + 1)), none] [] h7 (fun r h13 => r = none ∧ (K (some (.int (x8 + 1))) h13))))))))))) ∧ (¬ a2 ≤ 1000000 → (K (some (.int (-1))) h)))))))))))) : Ek 62 0 [some (.ref a0), some (.int a1), some (.int a2), none] [] h K := by
  have c1 := H.1
  refine Ek.callT 2 (fun n => rfl) c1 ?_
  replace H := H.2
  refine Ek.br 2 (fun n => rfl) (fun hc => ?_) (fun hc => ?_)
  · replace H := H.1 hc
    refine Ek.ret 2 (fun n => rfl) ?_
    exact Ek.ret 3 (fun n => rfl) H
  · replace H := H.2 hc
    refine Ek.chk 3 (fun n => rfl) c1 ?_
    obtain ⟨p2, e3, H⟩ := H
    show Ek _ _ _ (va_rf (mP h a0 0) :: _) _ _
    rw [e3]
    have c4 := H.1
    refine Ek.chk 1 (fun n => rfl) c4 ?_
    replace H := H.2
    refine Ek.br 1 (fun n => rfl) (fun hc => ?_) (fun hc => ?_)
    · replace H := H.1 hc
      refine Ek.ret 2 (fun n => rfl) ?_
      exact Ek.ret 3 (fun n => rfl) H
    · replace H := H.2 hc
      refine Ek.ret 3 (fun n => rfl) ?_
      refine Ek.br 4 (fun n => rfl) (fun hc => ?_) (fun hc => ?_)
      · replace H := H.1 hc
        exact Ek.ret 2 (fun n => rfl) H
      · replace H := H.2 hc
        refine Ek.br 3 (fun n => rfl) (fun hc => ?_) (fun hc => ?_)
        · replace H := H.1 hc
          refine Ek.chk 2 (fun n => rfl) c1 ?_
          refine Ek.br 1 (fun n => rfl) (fun hc => ?_) (fun hc => ?_)
          · replace H := H.1 hc
            refine Ek.chk 5 (fun n => rfl) c1 ?_
            show Ek _ _ _ (va_rf (mP h a0 0) :: _) _ _
            rw [e3]
            refine Ek.callT 3 (fun n => rfl) c4 ?_
            refine Ek.mono H ?_
            rintro _ h6 ⟨rfl, H⟩
            exact Ek.ret 2 (fun n => rfl) H
          · replace H := H.2 hc
            refine Ek.callT 1 (fun n => rfl) c1 ?_
            refine Ek.mono H ?_
            rintro _ h7 ⟨x8, rfl, H⟩
            have c9 := H.1
            refine Ek.chk 5 (fun n => rfl) c9 ?_
            replace H := H.2
            obtain ⟨p10, e11, H⟩ := H
            show Ek _ _ _ (va_rf (mP h7 a0 0) :: _) _ _
            rw [e11]
            have c12 := H.1
            refine Ek.callT 3 (fun n => rfl) c12 ?_
            replace H := H.2
            refine Ek.mono H ?_
            rintro _ h13 ⟨rfl, H⟩
            exact Ek.ret 2 (fun n => rfl) H
        · replace H := H.2 hc
          exact Ek.ret 2 (fun n => rfl) H

/-- RoundVotes.isNode(I)Z, from 0 -/
set_option maxRecDepth 4000 in
theorem T63 {a0 : Nat} {a1 : Int32} {h : mH} {K : Option Value → mH → Prop} (H : (a1 < 0 → (K (some (.int 0)) h)) ∧ (¬ a1 < 0 → ((mTg h a0 = 11) ∧ (∃ p2, mP h a0 0 = some p2 ∧ ((mTg h p2 = 9) ∧ (((mI h p2 0) ≤ a1 → (K (some (.int 0)) h)) ∧ (¬ (mI h p2 0) ≤ a1 → (K (some (.int 1)) h)))))))) : Ek 63 0 [some (.ref a0), some (.int a1)] [] h K := by
  refine Ek.br 2 (fun n => rfl) (fun hc => ?_) (fun hc => ?_)
  · replace H := H.1 hc
    exact Ek.ret 2 (fun n => rfl) H
  · replace H := H.2 hc
    have c1 := H.1
    refine Ek.chk 3 (fun n => rfl) c1 ?_
    replace H := H.2
    obtain ⟨p2, e3, H⟩ := H
    show Ek _ _ _ (va_rf (mP h a0 0) :: _) _ _
    rw [e3]
    have c4 := H.1
    refine Ek.chk 1 (fun n => rfl) c4 ?_
    replace H := H.2
    refine Ek.br 1 (fun n => rfl) (fun hc => ?_) (fun hc => ?_)
    · replace H := H.1 hc
      exact Ek.ret 2 (fun n => rfl) H
    · replace H := H.2 hc
      exact Ek.ret 3 (fun n => rfl) H

/-- RoundVotes.greatestHeight()I, from 0 -/
set_option maxRecDepth 4000 in
theorem T64 {a0 : Nat} {h : mH} {K : Option Value → mH → Prop} (H : Ek 64 4 [some (.ref a0), some (.int 1), some (.int 0)] [] h K) : Ek 64 0 [some (.ref a0), none, none] [] h K := by
  exact Ek.go 4 (fun n => rfl) H

/-- RoundVotes.greatestHeight()I, from 4 -/
set_option maxRecDepth 4000 in
theorem T64_4 {v0 : Nat} {v1 : Int32} {v2 : Int32} {h : mH} {K : Option Value → mH → Prop} (H : (mTg h v0 = 11) ∧ (∃ p2, mP h v0 0 = some p2 ∧ ((mTg h p2 = 9) ∧ (((mI h p2 0) ≤ v2 → (K (some (.int v1)) h)) ∧ (¬ (mI h p2 0) ≤ v2 → (∃ p5, mP h v0 1 = some p5 ∧ (((mTg h p5 = 23 ∨ mTg h p5 = 24 ∨ mTg h p5 = 25) ∧ ¬ v2 < 0 ∧ (v2.toNatClampNeg) < mLn h p5) ∧ (∃ p8, mP h p5 (v2.toNatClampNeg) = some p8 ∧ ((mTg h p8 = 7) ∧ (Ek 64 4 [some (.ref v0), some (.int (if v1 < (mI h p8 2) then (mI h p8 2) else v1)), some (.int (v2 + 1))] [] h K)))))))))) : Ek 64 4 [some (.ref v0), some (.int v1), some (.int v2)] [] h K := by
  have c1 := H.1
  refine Ek.chk 3 (fun n => rfl) c1 ?_
  replace H := H.2
  obtain ⟨p2, e3, H⟩ := H
  show Ek _ _ _ (va_rf (mP h v0 0) :: _) _ _
  rw [e3]
  have c4 := H.1
  refine Ek.chk 1 (fun n => rfl) c4 ?_
  replace H := H.2
  refine Ek.br 1 (fun n => rfl) (fun hc => ?_) (fun hc => ?_)
  · replace H := H.1 hc
    exact Ek.ret 2 (fun n => rfl) H
  · replace H := H.2 hc
    refine Ek.chk 3 (fun n => rfl) c1 ?_
    obtain ⟨p5, e6, H⟩ := H
    show Ek _ _ _ (va_rf (mP h v0 1) :: _) _ _
    rw [e6]
    have c7 := H.1
    refine Ek.chk 2 (fun n => rfl) c7 ?_
    replace H := H.2
    obtain ⟨p8, e9, H⟩ := H
    show Ek _ _ _ (va_rf (mP h p5 (v2.toNatClampNeg)) :: _) _ _
    rw [e9]
    have c10 := H.1
    refine Ek.chk 1 (fun n => rfl) c10 ?_
    replace H := H.2
    exact Ek.go 4 (fun n => rfl) H

/-- RoundVotes.behave(II)I, from 0 -/
set_option maxRecDepth 4000 in
theorem T65 {a0 : Nat} {a1 : Int32} {a2 : Int32} {h : mH} {K : Option Value → mH → Prop} (H : (mTg h a0 = 11) ∧ ((a1 < 0 → (K (some (.int (-1))) h)) ∧ (¬ a1 < 0 → (∃ p2, mP h a0 0 = some p2 ∧ ((mTg h p2 = 9) ∧ (((mI h p2 0) ≤ a1 → (K (some (.int (-1))) h)) ∧ (¬ (mI h p2 0) ≤ a1 → ((a2 < 0 → (K (some (.int (-1))) h)) ∧ (¬ a2 < 0 → ((a2 ≤ 5 → (∃ p5, mP h a0 1 = some p5 ∧ (((mTg h p5 = 23 ∨ mTg h p5 = 24 ∨ mTg h p5 = 25) ∧ ¬ a1 < 0 ∧ (a1.toNatClampNeg) < mLn h p5) ∧ (∃ p8, mP h p5 (a1.toNatClampNeg) = some p8 ∧ ((mTg h p8 = 7) ∧ (∀ h13, h13 = wI h p8 7 a2 → (K (some (.int (mI h p8 7))) h13))))))) ∧ (¬ a2 ≤ 5 → (K (some (.int (-1))) h)))))))))))) : Ek 65 0 [some (.ref a0), some (.int a1), some (.int a2), none] [] h K := by
  have c1 := H.1
  refine Ek.callT 2 (fun n => rfl) c1 ?_
  replace H := H.2
  refine Ek.br 2 (fun n => rfl) (fun hc => ?_) (fun hc => ?_)
  · replace H := H.1 hc
    refine Ek.ret 2 (fun n => rfl) ?_
    exact Ek.ret 3 (fun n => rfl) H
  · replace H := H.2 hc
    refine Ek.chk 3 (fun n => rfl) c1 ?_
    obtain ⟨p2, e3, H⟩ := H
    show Ek _ _ _ (va_rf (mP h a0 0) :: _) _ _
    rw [e3]
    have c4 := H.1
    refine Ek.chk 1 (fun n => rfl) c4 ?_
    replace H := H.2
    refine Ek.br 1 (fun n => rfl) (fun hc => ?_) (fun hc => ?_)
    · replace H := H.1 hc
      refine Ek.ret 2 (fun n => rfl) ?_
      exact Ek.ret 3 (fun n => rfl) H
    · replace H := H.2 hc
      refine Ek.ret 3 (fun n => rfl) ?_
      refine Ek.br 3 (fun n => rfl) (fun hc => ?_) (fun hc => ?_)
      · replace H := H.1 hc
        exact Ek.ret 2 (fun n => rfl) H
      · replace H := H.2 hc
        refine Ek.br 3 (fun n => rfl) (fun hc => ?_) (fun hc => ?_)
        · replace H := H.1 hc
          refine Ek.chk 2 (fun n => rfl) c1 ?_
          obtain ⟨p5, e6, H⟩ := H
          show Ek _ _ _ (va_rf (mP h a0 1) :: _) _ _
          rw [e6]
          have c7 := H.1
          refine Ek.chk 2 (fun n => rfl) c7 ?_
          replace H := H.2
          obtain ⟨p8, e9, H⟩ := H
          show Ek _ _ _ (va_rf (mP h p5 (a1.toNatClampNeg)) :: _) _ _
          rw [e9]
          have c10 := H.1
          refine Ek.chk 1 (fun n => rfl) c10 ?_
          replace H := H.2
          refine Ek.chk 3 (fun n => rfl) c1 ?_
          show Ek _ _ _ (va_rf (mP h a0 1) :: _) _ _
          rw [e6]
          refine Ek.chk 2 (fun n => rfl) c7 ?_
          show Ek _ _ _ (va_rf (mP h p5 (a1.toNatClampNeg)) :: _) _ _
          rw [e9]
          refine Ek.chk 2 (fun n => rfl) c10 ?_
          let h13 : mH := wI h p8 7 a2
          replace H := H h13 rfl
          show Ek _ _ _ _ h13 _
          exact Ek.ret 2 (fun n => rfl) H
        · replace H := H.2 hc
          exact Ek.ret 2 (fun n => rfl) H

/-- RoundVotes.disturb(III)I, from 0 -/
set_option maxRecDepth 4000 in
theorem T66 {a0 : Nat} {a1 : Int32} {a2 : Int32} {a3 : Int32} {h : mH} {K : Option Value → mH → Prop} (H : (mTg h a0 = 11) ∧ ((a1 < (mI h a0 6) → (K (some (.int (-1))) h)) ∧ (¬ a1 < (mI h a0 6) → ((a2 < 0 → (K (some (.int (-1))) h)) ∧ (¬ a2 < 0 → (((2 : Int32) < a2 → (K (some (.int (-1))) h)) ∧ (¬ (2 : Int32) < a2 → (∃ p2, mP h a0 3 = some p2 ∧ ((mTg h p2 = 10) ∧ (Ek 23 0 [some (.ref p2), some (.int a1), none] [] h (fun r h5 => ∃ x6 : Int32, r = some (.int x6) ∧ ((x6 < 0 → ((a2 = 2 → ((a3 < 1 → (K (some (.int (-1))) h5)) ∧ (¬ a3 < 1 → ((a3 ≤ 20 → ((mTg h5 a0 = 11) ∧ (∃ p8, mP h5 a0 3 = some p8 ∧ ((mTg h5 p8 = 10) ∧ (Ek 24 0 [some (.ref p8), some (.int a1), some (.int a2), some (.int a3)] [] h5 (fun r h11 => ∃ x12 : Int32, r = some (.int x12) ∧ ((x12 = 0 → (K (some (.int (-3))) h11)) ∧ (¬ x12 = 0 → ((mTg h11 a0 = 11) ∧ (∃ p14, mP h11 a0 3 = some p14 ∧ ((mTg h11 p14 = 10) ∧ (K (some (.int (mI h11 p14 3))) h11)))))))))))) ∧ (¬ a3 ≤ 20 → (K (some (.int (-1))) h5)))))) ∧ (¬ a2 = 2 → ((mTg h5 a0 = 11) ∧ (∃ p18, mP h5 a0 3 = some p18 ∧ ((mTg h5 p18 = 10) ∧ (Ek 24 0 [some (.ref p18), some (.int a1), some (.int a2), some (.int a3)] [] h5 (fun r h21 => ∃ x22 : Int32, r = some (.int x22) ∧ ((x22 = 0 → (K (some (.int (-3))) h21)) ∧ (¬ x22 = 0 → ((mTg h21 a0 = 11) ∧ (∃ p24, mP h21 a0 3 = some p24 ∧ ((mTg h21 p24 = 10) ∧ (K (some (.int (mI h21 p24 3))) h21)))))))))))))) ∧ (¬ x6 < 0 → (K (some (.int (-1))) h5)))))))))))))) : Ek 66 0 [some (.ref a0), some (.int a1), some (.int a2), some (.int a3)] [] h K := by
  have c1 := H.1
  refine Ek.chk 3 (fun n => rfl) c1 ?_
  replace H := H.2
  refine Ek.br 1 (fun n => rfl) (fun hc => ?_) (fun hc => ?_)
  · replace H := H.1 hc
    exact Ek.ret 2 (fun n => rfl) H
  · replace H := H.2 hc
    refine Ek.br 2 (fun n => rfl) (fun hc => ?_) (fun hc => ?_)
    · replace H := H.1 hc
      exact Ek.ret 2 (fun n => rfl) H
    · replace H := H.2 hc
      refine Ek.br 3 (fun n => rfl) (fun hc => ?_) (fun hc => ?_)
      · replace H := H.1 hc
        exact Ek.ret 2 (fun n => rfl) H
      · replace H := H.2 hc
        refine Ek.chk 2 (fun n => rfl) c1 ?_
        obtain ⟨p2, e3, H⟩ := H
        show Ek _ _ _ (va_rf (mP h a0 3) :: _) _ _
        rw [e3]
        have c4 := H.1
        refine Ek.callT 1 (fun n => rfl) c4 ?_
        replace H := H.2
        refine Ek.mono H ?_
        rintro _ h5 ⟨x6, rfl, H⟩
        refine Ek.br 1 (fun n => rfl) (fun hc => ?_) (fun hc => ?_)
        · replace H := H.1 hc
          refine Ek.br 3 (fun n => rfl) (fun hc => ?_) (fun hc => ?_)
          · replace H := H.1 hc
            refine Ek.br 3 (fun n => rfl) (fun hc => ?_) (fun hc => ?_)
            · replace H := H.1 hc
              exact Ek.ret 2 (fun n => rfl) H
            · replace H := H.2 hc
              refine Ek.br 3 (fun n => rfl) (fun hc => ?_) (fun hc => ?_)
              · replace H := H.1 hc
                have c7 := H.1
                refine Ek.chk 2 (fun n => rfl) c7 ?_
                replace H := H.2
                obtain ⟨p8, e9, H⟩ := H
                show Ek _ _ _ (va_rf (mP h5 a0 3) :: _) _ _
                rw [e9]
                have c10 := H.1
                refine Ek.callT 3 (fun n => rfl) c10 ?_
                replace H := H.2
                refine Ek.mono H ?_
                rintro _ h11 ⟨x12, rfl, H⟩
                refine Ek.br 1 (fun n => rfl) (fun hc => ?_) (fun hc => ?_)
                · replace H := H.1 hc
                  exact Ek.ret 2 (fun n => rfl) H
                · replace H := H.2 hc
                  have c13 := H.1
                  refine Ek.chk 2 (fun n => rfl) c13 ?_
                  replace H := H.2
                  obtain ⟨p14, e15, H⟩ := H
                  show Ek _ _ _ (va_rf (mP h11 a0 3) :: _) _ _
                  rw [e15]
                  have c16 := H.1
                  refine Ek.chk 1 (fun n => rfl) c16 ?_
                  replace H := H.2
                  exact Ek.ret 2 (fun n => rfl) H
              · replace H := H.2 hc
                exact Ek.ret 2 (fun n => rfl) H
          · replace H := H.2 hc
            have c17 := H.1
            refine Ek.chk 2 (fun n => rfl) c17 ?_
            replace H := H.2
            obtain ⟨p18, e19, H⟩ := H
            show Ek _ _ _ (va_rf (mP h5 a0 3) :: _) _ _
            rw [e19]
            have c20 := H.1
            refine Ek.callT 3 (fun n => rfl) c20 ?_
            replace H := H.2
            refine Ek.mono H ?_
            rintro _ h21 ⟨x22, rfl, H⟩
            refine Ek.br 1 (fun n => rfl) (fun hc => ?_) (fun hc => ?_)
            · replace H := H.1 hc
              exact Ek.ret 2 (fun n => rfl) H
            · replace H := H.2 hc
              have c23 := H.1
              refine Ek.chk 2 (fun n => rfl) c23 ?_
              replace H := H.2
              obtain ⟨p24, e25, H⟩ := H
              show Ek _ _ _ (va_rf (mP h21 a0 3) :: _) _ _
              rw [e25]
              have c26 := H.1
              refine Ek.chk 1 (fun n => rfl) c26 ?_
              replace H := H.2
              exact Ek.ret 2 (fun n => rfl) H
        · replace H := H.2 hc
          exact Ek.ret 2 (fun n => rfl) H

/-- RoundVotes.sides(II)I, from 0 -/
set_option maxRecDepth 4000 in
theorem T67 {a0 : Nat} {a1 : Int32} {a2 : Int32} {h : mH} {K : Option Value → mH → Prop} (H : (a2 < 1 → (K (some (.int (-1))) h)) ∧ (¬ a2 < 1 → ((a2 ≤ 100 → ((mTg h a0 = 11) ∧ (∀ h1, h1 = wI h a0 9 a1 → (∀ h3, h3 = wI h1 a0 10 ((mI h1 a0 5) + 1) → (∀ h4, h4 = wI h3 a0 11 ((mI h3 a0 5) + a2) → (K (some (.int 1)) h4)))))) ∧ (¬ a2 ≤ 100 → (K (some (.int (-1))) h))))) : Ek 67 0 [some (.ref a0), some (.int a1), some (.int a2)] [] h K := by
  refine Ek.br 3 (fun n => rfl) (fun hc => ?_) (fun hc => ?_)
  · replace H := H.1 hc
    exact Ek.ret 2 (fun n => rfl) H
  · replace H := H.2 hc
    refine Ek.br 3 (fun n => rfl) (fun hc => ?_) (fun hc => ?_)
    · replace H := H.1 hc
      have c2 := H.1
      refine Ek.chk 3 (fun n => rfl) c2 ?_
      replace H := H.2
      let h1 : mH := wI h a0 9 a1
      replace H := H h1 rfl
      show Ek _ _ _ _ h1 _
      refine Ek.chk 3 (fun n => rfl) c2 ?_
      refine Ek.chk 3 (fun n => rfl) c2 ?_
      let h3 : mH := wI h1 a0 10 ((mI h1 a0 5) + 1)
      replace H := H h3 rfl
      show Ek _ _ _ _ h3 _
      refine Ek.chk 3 (fun n => rfl) c2 ?_
      refine Ek.chk 3 (fun n => rfl) c2 ?_
      let h4 : mH := wI h3 a0 11 ((mI h3 a0 5) + a2)
      replace H := H h4 rfl
      show Ek _ _ _ _ h4 _
      exact Ek.ret 2 (fun n => rfl) H
    · replace H := H.2 hc
      exact Ek.ret 2 (fun n => rfl) H

/-- RoundVotes.cut(II)I, from 0 -/
set_option maxRecDepth 4000 in
theorem T68 {a0 : Nat} {a1 : Int32} {a2 : Int32} {h : mH} {K : Option Value → mH → Prop} (H : (mTg h a0 = 11) ∧ ((a1 < 0 → (K (some (.int (-1))) h)) ∧ (¬ a1 < 0 → (∃ p2, mP h a0 0 = some p2 ∧ ((mTg h p2 = 9) ∧ (((mI h p2 0) ≤ a1 → (K (some (.int (-1))) h)) ∧ (¬ (mI h p2 0) ≤ a1 → ((a2 < 1 → (K (some (.int (-1))) h)) ∧ (¬ a2 < 1 → ((a2 ≤ 50 → (((mI h a0 5) = 0 → (K (some (.int (-2))) h)) ∧ (¬ (mI h a0 5) = 0 → (∃ p5, mP h a0 1 = some p5 ∧ (((mTg h p5 = 23 ∨ mTg h p5 = 24 ∨ mTg h p5 = 25) ∧ ¬ a1 < 0 ∧ (a1.toNatClampNeg) < mLn h p5) ∧ (∃ p8, mP h p5 (a1.toNatClampNeg) = some p8 ∧ ((mTg h p8 = 7) ∧ (((mI h p8 8) ≤ 0 → (∀ h13, h13 = wI h p8 8 ((mI h a0 5) + a2) → (K (some (.int 1)) h13))) ∧ (¬ (mI h p8 8) ≤ 0 → (K (some (.int (-2))) h)))))))))) ∧ (¬ a2 ≤ 50 → (K (some (.int (-1))) h)))))))))))) : Ek 68 0 [some (.ref a0), some (.int a1), some (.int a2)] [] h K := by
  have c1 := H.1
  refine Ek.callT 2 (fun n => rfl) c1 ?_
  replace H := H.2
  refine Ek.br 2 (fun n => rfl) (fun hc => ?_) (fun hc => ?_)
  · replace H := H.1 hc
    refine Ek.ret 2 (fun n => rfl) ?_
    exact Ek.ret 3 (fun n => rfl) H
  · replace H := H.2 hc
    refine Ek.chk 3 (fun n => rfl) c1 ?_
    obtain ⟨p2, e3, H⟩ := H
    show Ek _ _ _ (va_rf (mP h a0 0) :: _) _ _
    rw [e3]
    have c4 := H.1
    refine Ek.chk 1 (fun n => rfl) c4 ?_
    replace H := H.2
    refine Ek.br 1 (fun n => rfl) (fun hc => ?_) (fun hc => ?_)
    · replace H := H.1 hc
      refine Ek.ret 2 (fun n => rfl) ?_
      exact Ek.ret 3 (fun n => rfl) H
    · replace H := H.2 hc
      refine Ek.ret 3 (fun n => rfl) ?_
      refine Ek.br 4 (fun n => rfl) (fun hc => ?_) (fun hc => ?_)
      · replace H := H.1 hc
        exact Ek.ret 2 (fun n => rfl) H
      · replace H := H.2 hc
        refine Ek.br 3 (fun n => rfl) (fun hc => ?_) (fun hc => ?_)
        · replace H := H.1 hc
          refine Ek.chk 2 (fun n => rfl) c1 ?_
          refine Ek.br 1 (fun n => rfl) (fun hc => ?_) (fun hc => ?_)
          · replace H := H.1 hc
            exact Ek.ret 2 (fun n => rfl) H
          · replace H := H.2 hc
            refine Ek.chk 2 (fun n => rfl) c1 ?_
            obtain ⟨p5, e6, H⟩ := H
            show Ek _ _ _ (va_rf (mP h a0 1) :: _) _ _
            rw [e6]
            have c7 := H.1
            refine Ek.chk 2 (fun n => rfl) c7 ?_
            replace H := H.2
            obtain ⟨p8, e9, H⟩ := H
            show Ek _ _ _ (va_rf (mP h p5 (a1.toNatClampNeg)) :: _) _ _
            rw [e9]
            have c10 := H.1
            refine Ek.callT 0 (fun n => rfl) c10 ?_
            replace H := H.2
            refine Ek.chk 2 (fun n => rfl) c10 ?_
            refine Ek.br 1 (fun n => rfl) (fun hc => ?_) (fun hc => ?_)
            · replace H := H.1 hc
              refine Ek.ret 2 (fun n => rfl) ?_
              refine Ek.chk 3 (fun n => rfl) c1 ?_
              show Ek _ _ _ (va_rf (mP h a0 1) :: _) _ _
              rw [e6]
              refine Ek.chk 2 (fun n => rfl) c7 ?_
              show Ek _ _ _ (va_rf (mP h p5 (a1.toNatClampNeg)) :: _) _ _
              rw [e9]
              refine Ek.chk 2 (fun n => rfl) c1 ?_
              refine Ek.chk 3 (fun n => rfl) c10 ?_
              let h13 : mH := wI h p8 8 ((mI h a0 5) + a2)
              replace H := H h13 rfl
              show Ek _ _ _ _ h13 _
              exact Ek.ret 2 (fun n => rfl) H
            · replace H := H.2 hc
              refine Ek.ret 3 (fun n => rfl) ?_
              exact Ek.ret 3 (fun n => rfl) H
        · replace H := H.2 hc
          exact Ek.ret 2 (fun n => rfl) H

/-- RoundVotes.turn(I)I, from 0 -/
set_option maxRecDepth 4000 in
theorem T69 {a0 : Nat} {a1 : Int32} {h : mH} {K : Option Value → mH → Prop} (H : (a1 < 1 → (K (some (.int (-1))) h)) ∧ (¬ a1 < 1 → ((a1 ≤ 100 → (Ek 69 15 [some (.ref a0), some (.int a1), some (.int 0)] [] h K)) ∧ (¬ a1 ≤ 100 → (K (some (.int (-1))) h))))) : Ek 69 0 [some (.ref a0), some (.int a1), none] [] h K := by
  refine Ek.br 3 (fun n => rfl) (fun hc => ?_) (fun hc => ?_)
  · replace H := H.1 hc
    exact Ek.ret 2 (fun n => rfl) H
  · replace H := H.2 hc
    refine Ek.br 3 (fun n => rfl) (fun hc => ?_) (fun hc => ?_)
    · replace H := H.1 hc
      exact Ek.go 2 (fun n => rfl) H
    · replace H := H.2 hc
      exact Ek.ret 2 (fun n => rfl) H

/-- RoundVotes.turn(I)I, from 15 -/
set_option maxRecDepth 4000 in
theorem T69_15 {v0 : Nat} {v1 : Int32} {v2 : Int32} {h : mH} {K : Option Value → mH → Prop} (H : (v1 ≤ v2 → ((mTg h v0 = 11) ∧ (K (some (.int (mI h v0 5))) h))) ∧ (¬ v1 ≤ v2 → ((mTg h v0 = 11) ∧ (∀ h3, h3 = wI h v0 5 ((mI h v0 5) + 1) → (((mI h3 v0 5) = 1 → (Ek 70 0 [some (.ref v0), none] [] h3 (fun r h4 => r = none ∧ ((mTg h4 v0 = 11) ∧ (Ek 75 0 [some (.ref v0), none, none] [] h4 (fun r h6 => r = none ∧ ((mTg h6 v0 = 11) ∧ (Ek 76 0 [some (.ref v0), none, none, none, none] [] h6 (fun r h8 => r = none ∧ ((mTg h8 v0 = 11) ∧ (Ek 78 0 [some (.ref v0), none, none, none] [] h8 (fun r h10 => r = none ∧ (Ek 69 15 [some (.ref v0), some (.int v1), some (.int (v2 + 1))] [] h10 K))))))))))))) ∧ (¬ (mI h3 v0 5) = 1 → (Ek 75 0 [some (.ref v0), none, none] [] h3 (fun r h11 => r = none ∧ ((mTg h11 v0 = 11) ∧ (Ek 76 0 [some (.ref v0), none, none, none, none] [] h11 (fun r h13 => r = none ∧ ((mTg h13 v0 = 11) ∧ (Ek 78 0 [some (.ref v0), none, none, none] [] h13 (fun r h15 => r = none ∧ (Ek 69 15 [some (.ref v0), some (.int v1), some (.int (v2 + 1))] [] h15 K))))))))))))))) : Ek 69 15 [some (.ref v0), some (.int v1), some (.int v2)] [] h K := by
  refine Ek.br 3 (fun n => rfl) (fun hc => ?_) (fun hc => ?_)
  · replace H := H.1 hc
    have c1 := H.1
    refine Ek.chk 2 (fun n => rfl) c1 ?_
    replace H := H.2
    exact Ek.ret 1 (fun n => rfl) H
  · replace H := H.2 hc
    have c2 := H.1
    refine Ek.chk 3 (fun n => rfl) c2 ?_
    replace H := H.2
    refine Ek.chk 3 (fun n => rfl) c2 ?_
    let h3 : mH := wI h v0 5 ((mI h v0 5) + 1)
    replace H := H h3 rfl
    show Ek _ _ _ _ h3 _
    refine Ek.chk 2 (fun n => rfl) c2 ?_
    refine Ek.br 2 (fun n => rfl) (fun hc => ?_) (fun hc => ?_)
    · replace H := H.1 hc
      refine Ek.callT 1 (fun n => rfl) c2 ?_
      refine Ek.mono H ?_
      rintro _ h4 ⟨rfl, H⟩
      have c5 := H.1
      refine Ek.callT 1 (fun n => rfl) c5 ?_
      replace H := H.2
      refine Ek.mono H ?_
      rintro _ h6 ⟨rfl, H⟩
      have c7 := H.1
      refine Ek.callT 1 (fun n => rfl) c7 ?_
      replace H := H.2
      refine Ek.mono H ?_
      rintro _ h8 ⟨rfl, H⟩
      have c9 := H.1
      refine Ek.callT 1 (fun n => rfl) c9 ?_
      replace H := H.2
      refine Ek.mono H ?_
      rintro _ h10 ⟨rfl, H⟩
      exact Ek.go 2 (fun n => rfl) H
    · replace H := H.2 hc
      refine Ek.callT 1 (fun n => rfl) c2 ?_
      refine Ek.mono H ?_
      rintro _ h11 ⟨rfl, H⟩
      have c12 := H.1
      refine Ek.callT 1 (fun n => rfl) c12 ?_
      replace H := H.2
      refine Ek.mono H ?_
      rintro _ h13 ⟨rfl, H⟩
      have c14 := H.1
      refine Ek.callT 1 (fun n => rfl) c14 ?_
      replace H := H.2
      refine Ek.mono H ?_
      rintro _ h15 ⟨rfl, H⟩
      exact Ek.go 2 (fun n => rfl) H

/-- RoundVotes.beginAll()V, from 0 -/
set_option maxRecDepth 4000 in
theorem T70 {a0 : Nat} {h : mH} {K : Option Value → mH → Prop} (H : Ek 70 2 [some (.ref a0), some (.int 0)] [] h K) : Ek 70 0 [some (.ref a0), none] [] h K := by
  exact Ek.go 2 (fun n => rfl) H

/-- RoundVotes.beginAll()V, from 2 -/
set_option maxRecDepth 4000 in
theorem T70_2 {v0 : Nat} {v1 : Int32} {h : mH} {K : Option Value → mH → Prop} (H : (mTg h v0 = 11) ∧ (∃ p2, mP h v0 0 = some p2 ∧ ((mTg h p2 = 9) ∧ (((mI h p2 0) ≤ v1 → (K none h)) ∧ (¬ (mI h p2 0) ≤ v1 → (∃ p5, mP h v0 1 = some p5 ∧ (((mTg h p5 = 23 ∨ mTg h p5 = 24 ∨ mTg h p5 = 25) ∧ ¬ v1 < 0 ∧ (v1.toNatClampNeg) < mLn h p5) ∧ (∃ p8, mP h p5 (v1.toNatClampNeg) = some p8 ∧ ((mTg h p8 = 7) ∧ (Ek 38 0 [some (.ref p8), some (.int 0), some (.int (mI h v0 5)), none] [] h (fun r h11 => r = none ∧ ((mTg h11 v0 = 11) ∧ (∃ p13, mP h11 v0 1 = some p13 ∧ (((mTg h11 p13 = 23 ∨ mTg h11 p13 = 24 ∨ mTg h11 p13 = 25) ∧ ¬ v1 < 0 ∧ (v1.toNatClampNeg) < mLn h11 p13) ∧ (∃ p16, mP h11 p13 (v1.toNatClampNeg) = some p16 ∧ (Ek 71 0 [some (.ref v0), some (.ref p16), none] [] h11 (fun r h18 => r = none ∧ (Ek 70 2 [some (.ref v0), some (.int (v1 + 1))] [] h18 K)))))))))))))))))) : Ek 70 2 [some (.ref v0), some (.int v1)] [] h K := by
  have c1 := H.1
  refine Ek.chk 3 (fun n => rfl) c1 ?_
  replace H := H.2
  obtain ⟨p2, e3, H⟩ := H
  show Ek _ _ _ (va_rf (mP h v0 0) :: _) _ _
  rw [e3]
  have c4 := H.1
  refine Ek.chk 1 (fun n => rfl) c4 ?_
  replace H := H.2
  refine Ek.br 1 (fun n => rfl) (fun hc => ?_) (fun hc => ?_)
  · replace H := H.1 hc
    exact Ek.ret 1 (fun n => rfl) H
  · replace H := H.2 hc
    refine Ek.chk 2 (fun n => rfl) c1 ?_
    obtain ⟨p5, e6, H⟩ := H
    show Ek _ _ _ (va_rf (mP h v0 1) :: _) _ _
    rw [e6]
    have c7 := H.1
    refine Ek.chk 2 (fun n => rfl) c7 ?_
    replace H := H.2
    obtain ⟨p8, e9, H⟩ := H
    show Ek _ _ _ (va_rf (mP h p5 (v1.toNatClampNeg)) :: _) _ _
    rw [e9]
    refine Ek.chk 3 (fun n => rfl) c1 ?_
    have c10 := H.1
    refine Ek.callT 0 (fun n => rfl) c10 ?_
    replace H := H.2
    refine Ek.mono H ?_
    rintro _ h11 ⟨rfl, H⟩
    have c12 := H.1
    refine Ek.chk 3 (fun n => rfl) c12 ?_
    replace H := H.2
    obtain ⟨p13, e14, H⟩ := H
    show Ek _ _ _ (va_rf (mP h11 v0 1) :: _) _ _
    rw [e14]
    have c15 := H.1
    refine Ek.chk 2 (fun n => rfl) c15 ?_
    replace H := H.2
    obtain ⟨p16, e17, H⟩ := H
    show Ek _ _ _ (va_rf (mP h11 p13 (v1.toNatClampNeg)) :: _) _ _
    rw [e17]
    refine Ek.callT 0 (fun n => rfl) c12 ?_
    refine Ek.mono H ?_
    rintro _ h18 ⟨rfl, H⟩
    exact Ek.go 2 (fun n => rfl) H

/-- RoundVotes.settle(LRoundVotes$Node;)V, from 0 -/
set_option maxRecDepth 4000 in
theorem T71 {a0 : Nat} {a1 : Nat} {h : mH} {K : Option Value → mH → Prop} (H : (mTg h a1 = 7) ∧ (((mI h a1 8) ≤ 0 → (Ek 71 10 [some (.ref a0), some (.ref a1), some (.int 0)] [] h K)) ∧ (¬ (mI h a1 8) ≤ 0 → (K none h)))) : Ek 71 0 [some (.ref a0), some (.ref a1), none] [] h K := by
  have c1 := H.1
  refine Ek.callT 1 (fun n => rfl) c1 ?_
  replace H := H.2
  refine Ek.chk 2 (fun n => rfl) c1 ?_
  refine Ek.br 1 (fun n => rfl) (fun hc => ?_) (fun hc => ?_)
  · replace H := H.1 hc
    refine Ek.ret 2 (fun n => rfl) ?_
    exact Ek.go 3 (fun n => rfl) H
  · replace H := H.2 hc
    refine Ek.ret 3 (fun n => rfl) ?_
    exact Ek.ret 2 (fun n => rfl) H

/-- RoundVotes.settle(LRoundVotes$Node;)V, from 10 -/
set_option maxRecDepth 4000 in
theorem T71_10 {v0 : Nat} {v1 : Nat} {v2 : Int32} {h : mH} {K : Option Value → mH → Prop} (H : ((10000 : Int32) ≤ v2 → (K none h)) ∧ (¬ (10000 : Int32) ≤ v2 → ((mTg h v0 = 11) ∧ (Ek 72 0 [some (.ref v0), some (.ref v1), none, none, none, none, none, none] [] h (fun r h2 => r = none ∧ ((mTg h2 v0 = 11) ∧ ((mTg h2 v1 = 7) ∧ (Ek 43 0 [some (.ref v1), some (.int (mI h2 v0 5)), none, none] [] h2 (fun r h5 => ∃ x6 : Int32, r = some (.int x6) ∧ ((x6 = 0 → (K none h5)) ∧ (¬ x6 = 0 → (Ek 71 10 [some (.ref v0), some (.ref v1), some (.int (v2 + 1))] [] h5 K)))))))))))) : Ek 71 10 [some (.ref v0), some (.ref v1), some (.int v2)] [] h K := by
  refine Ek.br 3 (fun n => rfl) (fun hc => ?_) (fun hc => ?_)
  · replace H := H.1 hc
    exact Ek.ret 1 (fun n => rfl) H
  · replace H := H.2 hc
    have c1 := H.1
    refine Ek.callT 2 (fun n => rfl) c1 ?_
    replace H := H.2
    refine Ek.mono H ?_
    rintro _ h2 ⟨rfl, H⟩
    have c3 := H.1
    refine Ek.chk 3 (fun n => rfl) c3 ?_
    replace H := H.2
    have c4 := H.1
    refine Ek.callT 0 (fun n => rfl) c4 ?_
    replace H := H.2
    refine Ek.mono H ?_
    rintro _ h5 ⟨x6, rfl, H⟩
    refine Ek.br 1 (fun n => rfl) (fun hc => ?_) (fun hc => ?_)
    · replace H := H.1 hc
      exact Ek.ret 1 (fun n => rfl) H
    · replace H := H.2 hc
      exact Ek.go 2 (fun n => rfl) H

/-- RoundVotes.dispatch(LRoundVotes$Node;)V, from 0 -/
set_option maxRecDepth 4000 in
theorem T72 {a0 : Nat} {a1 : Nat} {h : mH} {K : Option Value → mH → Prop} (H : (mTg h a1 = 7) ∧ (((mI h a1 17) = 0 → (K none h)) ∧ (¬ (mI h a1 17) = 0 → ((mTg h a1 = 7 ∧ ((0 : Int32) = 0 ∨ (0 : Int32) = 1)) ∧ (∀ h2, h2 = wI h a1 17 0 → (∃ p4, mP h a1 16 = some p4 ∧ ((mTg h p4 = 6) ∧ (((mI h2 p4 4) = 0 → (((mI h2 a1 7) = 1 → (Ek 72 38 [some (.ref a0), some (.ref a1), some (.ref p4), some (.int (mI h2 p4 5)), some (.int ((mI h2 p4 5) + 1)), some (.int 0), some (.int 0), none] [] h2 K)) ∧ (¬ (mI h2 a1 7) = 1 → (((mI h2 a1 7) = 3 → (Ek 72 38 [some (.ref a0), some (.ref a1), some (.ref p4), some (.int (mI h2 p4 5)), some (.int ((mI h2 p4 5) + 1)), some (.int 2), some (.int 0), none] [] h2 K)) ∧ (¬ (mI h2 a1 7) = 3 → (Ek 72 38 [some (.ref a0), some (.ref a1), some (.ref p4), some (.int (mI h2 p4 5)), some (.int ((mI h2 p4 5) + 1)), some (.int 1), some (.int 0), none] [] h2 K)))))) ∧ (¬ (mI h2 p4 4) = 0 → (((mI h2 p4 5) = 0 → (((mI h2 a1 7) = 1 → (Ek 72 38 [some (.ref a0), some (.ref a1), some (.ref p4), some (.int (mI h2 p4 5)), some (.int 1), some (.int 0), some (.int 0), none] [] h2 K)) ∧ (¬ (mI h2 a1 7) = 1 → (((mI h2 a1 7) = 3 → (Ek 72 38 [some (.ref a0), some (.ref a1), some (.ref p4), some (.int (mI h2 p4 5)), some (.int 1), some (.int 2), some (.int 0), none] [] h2 K)) ∧ (¬ (mI h2 a1 7) = 3 → (Ek 72 38 [some (.ref a0), some (.ref a1), some (.ref p4), some (.int (mI h2 p4 5)), some (.int 1), some (.int 1), some (.int 0), none] [] h2 K)))))) ∧ (¬ (mI h2 p4 5) = 0 → (((mI h2 a1 7) = 1 → (Ek 72 38 [some (.ref a0), some (.ref a1), some (.ref p4), some (.int (mI h2 p4 5)), some (.int 0), some (.int 0), some (.int 0), none] [] h2 K)) ∧ (¬ (mI h2 a1 7) = 1 → (((mI h2 a1 7) = 3 → (Ek 72 38 [some (.ref a0), some (.ref a1), some (.ref p4), some (.int (mI h2 p4 5)), some (.int 0), some (.int 2), some (.int 0), none] [] h2 K)) ∧ (¬ (mI h2 a1 7) = 3 → (Ek 72 38 [some (.ref a0), some (.ref a1), some (.ref p4), some (.int (mI h2 p4 5)), some (.int 0), some (.int 1), some (.int 0), none] [] h2 K)))))))))))))))) : Ek 72 0 [some (.ref a0), some (.ref a1), none, none, none, none, none, none] [] h K := by
  have c1 := H.1
  refine Ek.chk 2 (fun n => rfl) c1 ?_
  replace H := H.2
  refine Ek.br 1 (fun n => rfl) (fun hc => ?_) (fun hc => ?_)
  · replace H := H.1 hc
    exact Ek.ret 1 (fun n => rfl) H
  · replace H := H.2 hc
    have c3 := H.1
    refine Ek.chk 3 (fun n => rfl) c3 ?_
    replace H := H.2
    let h2 : mH := wI h a1 17 0
    replace H := H h2 rfl
    show Ek _ _ _ _ h2 _
    refine Ek.chk 2 (fun n => rfl) c1 ?_
    obtain ⟨p4, e5, H⟩ := H
    show Ek _ _ _ (va_rf (mP h a1 16) :: _) _ _
    rw [e5]
    have c6 := H.1
    refine Ek.chk 3 (fun n => rfl) c6 ?_
    replace H := H.2
    refine Ek.callT 2 (fun n => rfl) c6 ?_
    refine Ek.chk 2 (fun n => rfl) c6 ?_
    refine Ek.br 1 (fun n => rfl) (fun hc => ?_) (fun hc => ?_)
    · replace H := H.1 hc
      refine Ek.chk 2 (fun n => rfl) c6 ?_
      refine Ek.ret 3 (fun n => rfl) ?_
      refine Ek.callT 2 (fun n => rfl) c1 ?_
      refine Ek.chk 2 (fun n => rfl) c1 ?_
      refine Ek.br 2 (fun n => rfl) (fun hc => ?_) (fun hc => ?_)
      · replace H := H.1 hc
        refine Ek.ret 2 (fun n => rfl) ?_
        exact Ek.go 3 (fun n => rfl) H
      · replace H := H.2 hc
        refine Ek.chk 2 (fun n => rfl) c1 ?_
        refine Ek.br 2 (fun n => rfl) (fun hc => ?_) (fun hc => ?_)
        · replace H := H.1 hc
          refine Ek.ret 3 (fun n => rfl) ?_
          exact Ek.go 3 (fun n => rfl) H
        · replace H := H.2 hc
          refine Ek.ret 2 (fun n => rfl) ?_
          exact Ek.go 3 (fun n => rfl) H
    · replace H := H.2 hc
      refine Ek.chk 2 (fun n => rfl) c6 ?_
      refine Ek.br 1 (fun n => rfl) (fun hc => ?_) (fun hc => ?_)
      · replace H := H.1 hc
        refine Ek.ret 3 (fun n => rfl) ?_
        refine Ek.callT 2 (fun n => rfl) c1 ?_
        refine Ek.chk 2 (fun n => rfl) c1 ?_
        refine Ek.br 2 (fun n => rfl) (fun hc => ?_) (fun hc => ?_)
        · replace H := H.1 hc
          refine Ek.ret 2 (fun n => rfl) ?_
          exact Ek.go 3 (fun n => rfl) H
        · replace H := H.2 hc
          refine Ek.chk 2 (fun n => rfl) c1 ?_
          refine Ek.br 2 (fun n => rfl) (fun hc => ?_) (fun hc => ?_)
          · replace H := H.1 hc
            refine Ek.ret 3 (fun n => rfl) ?_
            exact Ek.go 3 (fun n => rfl) H
          · replace H := H.2 hc
            refine Ek.ret 2 (fun n => rfl) ?_
            exact Ek.go 3 (fun n => rfl) H
      · replace H := H.2 hc
        refine Ek.ret 2 (fun n => rfl) ?_
        refine Ek.callT 2 (fun n => rfl) c1 ?_
        refine Ek.chk 2 (fun n => rfl) c1 ?_
        refine Ek.br 2 (fun n => rfl) (fun hc => ?_) (fun hc => ?_)
        · replace H := H.1 hc
          refine Ek.ret 2 (fun n => rfl) ?_
          exact Ek.go 3 (fun n => rfl) H
        · replace H := H.2 hc
          refine Ek.chk 2 (fun n => rfl) c1 ?_
          refine Ek.br 2 (fun n => rfl) (fun hc => ?_) (fun hc => ?_)
          · replace H := H.1 hc
            refine Ek.ret 3 (fun n => rfl) ?_
            exact Ek.go 3 (fun n => rfl) H
          · replace H := H.2 hc
            refine Ek.ret 2 (fun n => rfl) ?_
            exact Ek.go 3 (fun n => rfl) H

/-- RoundVotes.dispatch(LRoundVotes$Node;)V, from 38 -/
set_option maxRecDepth 4000 in
theorem T72_38 {v0 : Nat} {v1 : Nat} {v2 : Nat} {v3 : Int32} {v4 : Int32} {v5 : Int32} {v6 : Int32} {h : mH} {K : Option Value → mH → Prop} (H : (v5 ≤ v6 → (K none h)) ∧ (¬ v5 ≤ v6 → (Ek 72 48 [some (.ref v0), some (.ref v1), some (.ref v2), some (.int v3), some (.int v4), some (.int v5), some (.int v6), some (.int 0)] [] h K))) : Ek 72 38 [some (.ref v0), some (.ref v1), some (.ref v2), some (.int v3), some (.int v4), some (.int v5), some (.int v6), none] [] h K := by
  refine Ek.br 3 (fun n => rfl) (fun hc => ?_) (fun hc => ?_)
  · replace H := H.1 hc
    exact Ek.ret 1 (fun n => rfl) H
  · replace H := H.2 hc
    exact Ek.go 2 (fun n => rfl) H

/-- RoundVotes.dispatch(LRoundVotes$Node;)V, from 48 -/
set_option maxRecDepth 4000 in
theorem T72_48 {v0 : Nat} {v1 : Nat} {v2 : Nat} {v3 : Int32} {v4 : Int32} {v5 : Int32} {v6 : Int32} {v7 : Int32} {h : mH} {K : Option Value → mH → Prop} (H : (mTg h v0 = 11) ∧ (∃ p2, mP h v0 0 = some p2 ∧ ((mTg h p2 = 9) ∧ (((mI h p2 0) ≤ v7 → (Ek 72 38 [some (.ref v0), some (.ref v1), some (.ref v2), some (.int v3), some (.int v4), some (.int v5), some (.int (v6 + 1)), some (.int v7)] [] h K)) ∧ (¬ (mI h p2 0) ≤ v7 → ((mTg h v1 = 7) ∧ ((v7 = (mI h v1 0) → (Ek 72 48 [some (.ref v0), some (.ref v1), some (.ref v2), some (.int v3), some (.int v4), some (.int v5), some (.int v6), some (.int (v7 + 1))] [] h K)) ∧ (¬ v7 = (mI h v1 0) → ((mTg h v2 = 6) ∧ (∀ h6, h6 = wI h v2 1 v7 → ((v6 = 1 → (∀ h8, h8 = wI h6 v2 5 v4 → (∃ p9, mP h v1 15 = some p9 ∧ ((mTg h p9 = 8) ∧ (Ek 35 0 [some (.ref p9), some (.ref v2), none] [] h8 (fun r h12 => r = none ∧ ((mTg h12 v0 = 11) ∧ (Ek 73 0 [some (.ref v0), some (.ref v2), none, none, none] [] h12 (fun r h14 => r = none ∧ (Ek 72 48 [some (.ref v0), some (.ref v1), some (.ref v2), some (.int v3), some (.int v4), some (.int v5), some (.int v6), some (.int (v7 + 1))] [] h14 K)))))))))) ∧ (¬ v6 = 1 → (((mI h6 v1 7) = 2 → ((¬ 2 = 0) ∧ (((v7 - v7 / 2 * 2) = 1 → (∀ h16, h16 = wI h6 v2 5 v4 → (∃ p17, mP h v1 15 = some p17 ∧ ((mTg h p17 = 8) ∧ (Ek 35 0 [some (.ref p17), some (.ref v2), none] [] h16 (fun r h20 => r = none ∧ ((mTg h20 v0 = 11) ∧ (Ek 73 0 [some (.ref v0), some (.ref v2), none, none, none] [] h20 (fun r h22 => r = none ∧ (Ek 72 48 [some (.ref v0), some (.ref v1), some (.ref v2), some (.int v3), some (.int v4), some (.int v5), some (.int v6), some (.int (v7 + 1))] [] h22 K)))))))))) ∧ (¬ (v7 - v7 / 2 * 2) = 1 → (∀ h23, h23 = wI h6 v2 5 v3 → (∃ p24, mP h v1 15 = some p24 ∧ ((mTg h p24 = 8) ∧ (Ek 35 0 [some (.ref p24), some (.ref v2), none] [] h23 (fun r h27 => r = none ∧ ((mTg h27 v0 = 11) ∧ (Ek 73 0 [some (.ref v0), some (.ref v2), none, none, none] [] h27 (fun r h29 => r = none ∧ (Ek 72 48 [some (.ref v0), some (.ref v1), some (.ref v2), some (.int v3), some (.int v4), some (.int v5), some (.int v6), some (.int (v7 + 1))] [] h29 K))))))))))))) ∧ (¬ (mI h6 v1 7) = 2 → (∀ h30, h30 = wI h6 v2 5 v3 → (∃ p31, mP h v1 15 = some p31 ∧ ((mTg h p31 = 8) ∧ (Ek 35 0 [some (.ref p31), some (.ref v2), none] [] h30 (fun r h34 => r = none ∧ ((mTg h34 v0 = 11) ∧ (Ek 73 0 [some (.ref v0), some (.ref v2), none, none, none] [] h34 (fun r h36 => r = none ∧ (Ek 72 48 [some (.ref v0), some (.ref v1), some (.ref v2), some (.int v3), some (.int v4), some (.int v5), some (.int v6), some (.int (v7 + 1))] [] h36 K))))))))))))))))))))))) : Ek 72 48 [some (.ref v0), some (.ref v1), some (.ref v2), some (.int v3), some (.int v4), some (.int v5), some (.int v6), some (.int v7)] [] h K := by
  have c1 := H.1
  refine Ek.chk 3 (fun n => rfl) c1 ?_
  replace H := H.2
  obtain ⟨p2, e3, H⟩ := H
  show Ek _ _ _ (va_rf (mP h v0 0) :: _) _ _
  rw [e3]
  have c4 := H.1
  refine Ek.chk 1 (fun n => rfl) c4 ?_
  replace H := H.2
  refine Ek.br 1 (fun n => rfl) (fun hc => ?_) (fun hc => ?_)
  · replace H := H.1 hc
    exact Ek.go 2 (fun n => rfl) H
  · replace H := H.2 hc
    have c5 := H.1
    refine Ek.chk 3 (fun n => rfl) c5 ?_
    replace H := H.2
    refine Ek.br 1 (fun n => rfl) (fun hc => ?_) (fun hc => ?_)
    · replace H := H.1 hc
      exact Ek.go 2 (fun n => rfl) H
    · replace H := H.2 hc
      have c7 := H.1
      refine Ek.chk 3 (fun n => rfl) c7 ?_
      replace H := H.2
      let h6 : mH := wI h v2 1 v7
      replace H := H h6 rfl
      show Ek _ _ _ _ h6 _
      refine Ek.br 4 (fun n => rfl) (fun hc => ?_) (fun hc => ?_)
      · replace H := H.1 hc
        refine Ek.chk 3 (fun n => rfl) c7 ?_
        let h8 : mH := wI h6 v2 5 v4
        replace H := H h8 rfl
        show Ek _ _ _ _ h8 _
        refine Ek.chk 2 (fun n => rfl) c5 ?_
        obtain ⟨p9, e10, H⟩ := H
        show Ek _ _ _ (va_rf (mP h v1 15) :: _) _ _
        rw [e10]
        have c11 := H.1
        refine Ek.callT 1 (fun n => rfl) c11 ?_
        replace H := H.2
        refine Ek.mono H ?_
        rintro _ h12 ⟨rfl, H⟩
        have c13 := H.1
        refine Ek.callT 2 (fun n => rfl) c13 ?_
        replace H := H.2
        refine Ek.mono H ?_
        rintro _ h14 ⟨rfl, H⟩
        exact Ek.go 2 (fun n => rfl) H
      · replace H := H.2 hc
        refine Ek.callT 2 (fun n => rfl) c5 ?_
        refine Ek.chk 2 (fun n => rfl) c5 ?_
        refine Ek.br 2 (fun n => rfl) (fun hc => ?_) (fun hc => ?_)
        · replace H := H.1 hc
          have c15 := H.1
          refine Ek.nch 3 (fun n => rfl) c15 ?_
          replace H := H.2
          refine Ek.br 2 (fun n => rfl) (fun hc => ?_) (fun hc => ?_)
          · replace H := H.1 hc
            refine Ek.ret 3 (fun n => rfl) ?_
            refine Ek.chk 4 (fun n => rfl) c7 ?_
            let h16 : mH := wI h6 v2 5 v4
            replace H := H h16 rfl
            show Ek _ _ _ _ h16 _
            refine Ek.chk 2 (fun n => rfl) c5 ?_
            obtain ⟨p17, e18, H⟩ := H
            show Ek _ _ _ (va_rf (mP h v1 15) :: _) _ _
            rw [e18]
            have c19 := H.1
            refine Ek.callT 1 (fun n => rfl) c19 ?_
            replace H := H.2
            refine Ek.mono H ?_
            rintro _ h20 ⟨rfl, H⟩
            have c21 := H.1
            refine Ek.callT 2 (fun n => rfl) c21 ?_
            replace H := H.2
            refine Ek.mono H ?_
            rintro _ h22 ⟨rfl, H⟩
            exact Ek.go 2 (fun n => rfl) H
          · replace H := H.2 hc
            refine Ek.ret 2 (fun n => rfl) ?_
            refine Ek.chk 3 (fun n => rfl) c7 ?_
            let h23 : mH := wI h6 v2 5 v3
            replace H := H h23 rfl
            show Ek _ _ _ _ h23 _
            refine Ek.chk 2 (fun n => rfl) c5 ?_
            obtain ⟨p24, e25, H⟩ := H
            show Ek _ _ _ (va_rf (mP h v1 15) :: _) _ _
            rw [e25]
            have c26 := H.1
            refine Ek.callT 1 (fun n => rfl) c26 ?_
            replace H := H.2
            refine Ek.mono H ?_
            rintro _ h27 ⟨rfl, H⟩
            have c28 := H.1
            refine Ek.callT 2 (fun n => rfl) c28 ?_
            replace H := H.2
            refine Ek.mono H ?_
            rintro _ h29 ⟨rfl, H⟩
            exact Ek.go 2 (fun n => rfl) H
        · replace H := H.2 hc
          refine Ek.ret 2 (fun n => rfl) ?_
          refine Ek.chk 3 (fun n => rfl) c7 ?_
          let h30 : mH := wI h6 v2 5 v3
          replace H := H h30 rfl
          show Ek _ _ _ _ h30 _
          refine Ek.chk 2 (fun n => rfl) c5 ?_
          obtain ⟨p31, e32, H⟩ := H
          show Ek _ _ _ (va_rf (mP h v1 15) :: _) _ _
          rw [e32]
          have c33 := H.1
          refine Ek.callT 1 (fun n => rfl) c33 ?_
          replace H := H.2
          refine Ek.mono H ?_
          rintro _ h34 ⟨rfl, H⟩
          have c35 := H.1
          refine Ek.callT 2 (fun n => rfl) c35 ?_
          replace H := H.2
          refine Ek.mono H ?_
          rintro _ h36 ⟨rfl, H⟩
          exact Ek.go 2 (fun n => rfl) H

/-- RoundVotes.sendCopy(LRoundVotes$Message;)V, from 0 -/
set_option maxRecDepth 4000 in
theorem T73 {a0 : Nat} {a1 : Nat} {h : mH} {K : Option Value → mH → Prop} (H : (mTg h a0 = 11) ∧ (∃ p2, mP h a0 3 = some p2 ∧ ((mTg h p2 = 10) ∧ (Ek 23 0 [some (.ref p2), some (.int (mI h a0 6)), none] [] h (fun r h5 => ∃ x6 : Int32, r = some (.int x6) ∧ (((0 : Int32) ≤ x6 → ((mTg h5 a0 = 11) ∧ (∃ p8, mP h5 a0 3 = some p8 ∧ ((mTg h5 p8 = 10) ∧ (∃ p11, mP h5 p8 1 = some p11 ∧ (((mTg h5 p11 = 20 ∨ mTg h5 p11 = 30) ∧ ¬ x6 < 0 ∧ (x6.toNatClampNeg) < mLn h5 p11) ∧ (((mI h5 p11 (x6.toNatClampNeg)) = 2 → (∃ p15, mP h5 p8 2 = some p15 ∧ (((mTg h5 p15 = 20 ∨ mTg h5 p15 = 30) ∧ ¬ x6 < 0 ∧ (x6.toNatClampNeg) < mLn h5 p15) ∧ (Ek 25 0 [some (.ref p8), some (.int x6)] [] h5 (fun r h19 => r = none ∧ ((mTg h19 a0 = 11) ∧ (∀ h21, h21 = wI h19 a0 6 ((mI h19 a0 6) + 1) → (((mI h5 p11 (x6.toNatClampNeg)) = 0 → (∀ h22, h22 = wI h21 a0 8 ((mI h21 a0 8) + 1) → (K none h22))) ∧ (¬ (mI h5 p11 (x6.toNatClampNeg)) = 0 → ((mTg h19 a1 = 6) ∧ (Ek 74 0 [some (.ref a0), some (.int (mI h21 a1 0)), some (.int (mI h21 a1 1)), none] [] h21 (fun r h24 => ∃ x25 : Int32, r = some (.int x25) ∧ ((x25 = 0 → ((mTg h24 a0 = 11) ∧ (∃ p27, mP h24 a0 2 = some p27 ∧ ((mTg h24 p27 = 5) ∧ (Ek 32 0 [some (.ref p27), some (.ref a1), some (.int (((mI h24 a0 5) + 1) + (mI h5 p15 (x6.toNatClampNeg)))), some (.int 0), none] [] h24 (fun r h30 => ∃ x31 : Int32, r = some (.int x31) ∧ ((x31 = 0 → ((mTg h30 a0 = 11) ∧ (∀ h33, h33 = wI h30 a0 8 ((mI h30 a0 8) + 1) → (K none h33)))) ∧ (¬ x31 = 0 → (((mI h5 p11 (x6.toNatClampNeg)) = 1 → ((mTg h30 a0 = 11) ∧ (∃ p35, mP h30 a0 2 = some p35 ∧ ((mTg h30 p35 = 5) ∧ (Ek 32 0 [some (.ref p35), some (.ref a1), some (.int ((mI h30 a0 5) + 2)), some (.int 1), none] [] h30 (fun r h38 => ∃ x39 : Int32, r = some (.int x39) ∧ ((x39 = 0 → ((mTg h38 a0 = 11) ∧ (∀ h41, h41 = wI h38 a0 8 ((mI h38 a0 8) + 1) → (K none h41)))) ∧ (¬ x39 = 0 → (K none h38))))))))) ∧ (¬ (mI h5 p11 (x6.toNatClampNeg)) = 1 → (K none h30))))))))))) ∧ (¬ x25 = 0 → ((mTg h24 a0 = 11) ∧ (∀ h43, h43 = wI h24 a0 8 ((mI h24 a0 8) + 1) → (K none h43))))))))))))))))) ∧ (¬ (mI h5 p11 (x6.toNatClampNeg)) = 2 → (Ek 25 0 [some (.ref p8), some (.int x6)] [] h5 (fun r h45 => r = none ∧ ((mTg h45 a0 = 11) ∧ (∀ h47, h47 = wI h45 a0 6 ((mI h45 a0 6) + 1) → (((mI h5 p11 (x6.toNatClampNeg)) = 0 → (∀ h48, h48 = wI h47 a0 8 ((mI h47 a0 8) + 1) → (K none h48))) ∧ (¬ (mI h5 p11 (x6.toNatClampNeg)) = 0 → ((mTg h45 a1 = 6) ∧ (Ek 74 0 [some (.ref a0), some (.int (mI h47 a1 0)), some (.int (mI h47 a1 1)), none] [] h47 (fun r h50 => ∃ x51 : Int32, r = some (.int x51) ∧ ((x51 = 0 → ((mTg h50 a0 = 11) ∧ (∃ p53, mP h50 a0 2 = some p53 ∧ ((mTg h50 p53 = 5) ∧ (Ek 32 0 [some (.ref p53), some (.ref a1), some (.int (((mI h50 a0 5) + 1) + 0)), some (.int 0), none] [] h50 (fun r h56 => ∃ x57 : Int32, r = some (.int x57) ∧ ((x57 = 0 → ((mTg h56 a0 = 11) ∧ (∀ h59, h59 = wI h56 a0 8 ((mI h56 a0 8) + 1) → (K none h59)))) ∧ (¬ x57 = 0 → (((mI h5 p11 (x6.toNatClampNeg)) = 1 → ((mTg h56 a0 = 11) ∧ (∃ p61, mP h56 a0 2 = some p61 ∧ ((mTg h56 p61 = 5) ∧ (Ek 32 0 [some (.ref p61), some (.ref a1), some (.int ((mI h56 a0 5) + 2)), some (.int 1), none] [] h56 (fun r h64 => ∃ x65 : Int32, r = some (.int x65) ∧ ((x65 = 0 → ((mTg h64 a0 = 11) ∧ (∀ h67, h67 = wI h64 a0 8 ((mI h64 a0 8) + 1) → (K none h67)))) ∧ (¬ x65 = 0 → (K none h64))))))))) ∧ (¬ (mI h5 p11 (x6.toNatClampNeg)) = 1 → (K none h56))))))))))) ∧ (¬ x51 = 0 → ((mTg h50 a0 = 11) ∧ (∀ h69, h69 = wI h50 a0 8 ((mI h50 a0 8) + 1) → (K none h69)))))))))))))))))))))) ∧ (¬ (0 : Int32) ≤ x6 → ((mTg h5 a0 = 11) ∧ (∃ p71, mP h5 a0 3 = some p71 ∧ ((mTg h5 p71 = 10) ∧ (Ek 25 0 [some (.ref p71), some (.int x6)] [] h5 (fun r h74 => r = none ∧ ((mTg h74 a0 = 11) ∧ (∀ h76, h76 = wI h74 a0 6 ((mI h74 a0 6) + 1) → ((mTg h74 a1 = 6) ∧ (Ek 74 0 [some (.ref a0), some (.int (mI h76 a1 0)), some (.int (mI h76 a1 1)), none] [] h76 (fun r h78 => ∃ x79 : Int32, r = some (.int x79) ∧ ((x79 = 0 → ((mTg h78 a0 = 11) ∧ (∃ p81, mP h78 a0 2 = some p81 ∧ ((mTg h78 p81 = 5) ∧ (Ek 32 0 [some (.ref p81), some (.ref a1), some (.int (((mI h78 a0 5) + 1) + 0)), some (.int 0), none] [] h78 (fun r h84 => ∃ x85 : Int32, r = some (.int x85) ∧ ((x85 = 0 → ((mTg h84 a0 = 11) ∧ (∀ h87, h87 = wI h84 a0 8 ((mI h84 a0 8) + 1) → (K none h87)))) ∧ (¬ x85 = 0 → (K none h84))))))))) ∧ (¬ x79 = 0 → ((mTg h78 a0 = 11) ∧ (∀ h89, h89 = wI h78 a0 8 ((mI h78 a0 8) + 1) → (K none h89)))))))))))))))))))))) : Ek 73 0 [some (.ref a0), some (.ref a1), none, none, none] [] h K := by
  have c1 := H.1
  refine Ek.chk 2 (fun n => rfl) c1 ?_
  replace H := H.2
  obtain ⟨p2, e3, H⟩ := H
  show Ek _ _ _ (va_rf (mP h a0 3) :: _) _ _
  rw [e3]
  refine Ek.chk 2 (fun n => rfl) c1 ?_
  have c4 := H.1
  refine Ek.callT 0 (fun n => rfl) c4 ?_
  replace H := H.2
  refine Ek.mono H ?_
  rintro _ h5 ⟨x6, rfl, H⟩
  refine Ek.br 3 (fun n => rfl) (fun hc => ?_) (fun hc => ?_)
  · replace H := H.1 hc
    have c7 := H.1
    refine Ek.chk 2 (fun n => rfl) c7 ?_
    replace H := H.2
    obtain ⟨p8, e9, H⟩ := H
    show Ek _ _ _ (va_rf (mP h5 a0 3) :: _) _ _
    rw [e9]
    have c10 := H.1
    refine Ek.chk 1 (fun n => rfl) c10 ?_
    replace H := H.2
    obtain ⟨p11, e12, H⟩ := H
    show Ek _ _ _ (va_rf (mP h5 p8 1) :: _) _ _
    rw [e12]
    have c13 := H.1
    refine Ek.chk 2 (fun n => rfl) c13 ?_
    replace H := H.2
    refine Ek.br 4 (fun n => rfl) (fun hc => ?_) (fun hc => ?_)
    · replace H := H.1 hc
      refine Ek.chk 2 (fun n => rfl) c7 ?_
      show Ek _ _ _ (va_rf (mP h5 a0 3) :: _) _ _
      rw [e9]
      refine Ek.chk 1 (fun n => rfl) c10 ?_
      obtain ⟨p15, e16, H⟩ := H
      show Ek _ _ _ (va_rf (mP h5 p8 2) :: _) _ _
      rw [e16]
      have c17 := H.1
      refine Ek.chk 2 (fun n => rfl) c17 ?_
      replace H := H.2
      refine Ek.chk 4 (fun n => rfl) c7 ?_
      show Ek _ _ _ (va_rf (mP h5 a0 3) :: _) _ _
      rw [e9]
      refine Ek.callT 1 (fun n => rfl) c10 ?_
      refine Ek.mono H ?_
      rintro _ h19 ⟨rfl, H⟩
      have c20 := H.1
      refine Ek.chk 3 (fun n => rfl) c20 ?_
      replace H := H.2
      refine Ek.chk 3 (fun n => rfl) c20 ?_
      let h21 : mH := wI h19 a0 6 ((mI h19 a0 6) + 1)
      replace H := H h21 rfl
      show Ek _ _ _ _ h21 _
      refine Ek.br 2 (fun n => rfl) (fun hc => ?_) (fun hc => ?_)
      · replace H := H.1 hc
        refine Ek.chk 3 (fun n => rfl) c20 ?_
        refine Ek.chk 3 (fun n => rfl) c20 ?_
        let h22 : mH := wI h21 a0 8 ((mI h21 a0 8) + 1)
        replace H := H h22 rfl
        show Ek _ _ _ _ h22 _
        exact Ek.ret 1 (fun n => rfl) H
      · replace H := H.2 hc
        have c23 := H.1
        refine Ek.chk 3 (fun n => rfl) c23 ?_
        replace H := H.2
        refine Ek.chk 2 (fun n => rfl) c23 ?_
        refine Ek.callT 0 (fun n => rfl) c20 ?_
        refine Ek.mono H ?_
        rintro _ h24 ⟨x25, rfl, H⟩
        refine Ek.br 1 (fun n => rfl) (fun hc => ?_) (fun hc => ?_)
        · replace H := H.1 hc
          have c26 := H.1
          refine Ek.chk 2 (fun n => rfl) c26 ?_
          replace H := H.2
          obtain ⟨p27, e28, H⟩ := H
          show Ek _ _ _ (va_rf (mP h24 a0 2) :: _) _ _
          rw [e28]
          refine Ek.chk 3 (fun n => rfl) c26 ?_
          have c29 := H.1
          refine Ek.callT 5 (fun n => rfl) c29 ?_
          replace H := H.2
          refine Ek.mono H ?_
          rintro _ h30 ⟨x31, rfl, H⟩
          refine Ek.br 1 (fun n => rfl) (fun hc => ?_) (fun hc => ?_)
          · replace H := H.1 hc
            have c32 := H.1
            refine Ek.chk 3 (fun n => rfl) c32 ?_
            replace H := H.2
            refine Ek.chk 3 (fun n => rfl) c32 ?_
            let h33 : mH := wI h30 a0 8 ((mI h30 a0 8) + 1)
            replace H := H h33 rfl
            show Ek _ _ _ _ h33 _
            exact Ek.ret 1 (fun n => rfl) H
          · replace H := H.2 hc
            refine Ek.br 3 (fun n => rfl) (fun hc => ?_) (fun hc => ?_)
            · replace H := H.1 hc
              have c34 := H.1
              refine Ek.chk 2 (fun n => rfl) c34 ?_
              replace H := H.2
              obtain ⟨p35, e36, H⟩ := H
              show Ek _ _ _ (va_rf (mP h30 a0 2) :: _) _ _
              rw [e36]
              refine Ek.chk 3 (fun n => rfl) c34 ?_
              have c37 := H.1
              refine Ek.callT 3 (fun n => rfl) c37 ?_
              replace H := H.2
              refine Ek.mono H ?_
              rintro _ h38 ⟨x39, rfl, H⟩
              refine Ek.br 1 (fun n => rfl) (fun hc => ?_) (fun hc => ?_)
              · replace H := H.1 hc
                have c40 := H.1
                refine Ek.chk 3 (fun n => rfl) c40 ?_
                replace H := H.2
                refine Ek.chk 3 (fun n => rfl) c40 ?_
                let h41 : mH := wI h38 a0 8 ((mI h38 a0 8) + 1)
                replace H := H h41 rfl
                show Ek _ _ _ _ h41 _
                exact Ek.ret 1 (fun n => rfl) H
              · replace H := H.2 hc
                exact Ek.ret 1 (fun n => rfl) H
            · replace H := H.2 hc
              exact Ek.ret 1 (fun n => rfl) H
        · replace H := H.2 hc
          have c42 := H.1
          refine Ek.chk 3 (fun n => rfl) c42 ?_
          replace H := H.2
          refine Ek.chk 3 (fun n => rfl) c42 ?_
          let h43 : mH := wI h24 a0 8 ((mI h24 a0 8) + 1)
          replace H := H h43 rfl
          show Ek _ _ _ _ h43 _
          exact Ek.ret 1 (fun n => rfl) H
    · replace H := H.2 hc
      refine Ek.chk 4 (fun n => rfl) c7 ?_
      show Ek _ _ _ (va_rf (mP h5 a0 3) :: _) _ _
      rw [e9]
      refine Ek.callT 1 (fun n => rfl) c10 ?_
      refine Ek.mono H ?_
      rintro _ h45 ⟨rfl, H⟩
      have c46 := H.1
      refine Ek.chk 3 (fun n => rfl) c46 ?_
      replace H := H.2
      refine Ek.chk 3 (fun n => rfl) c46 ?_
      let h47 : mH := wI h45 a0 6 ((mI h45 a0 6) + 1)
      replace H := H h47 rfl
      show Ek _ _ _ _ h47 _
      refine Ek.br 2 (fun n => rfl) (fun hc => ?_) (fun hc => ?_)
      · replace H := H.1 hc
        refine Ek.chk 3 (fun n => rfl) c46 ?_
        refine Ek.chk 3 (fun n => rfl) c46 ?_
        let h48 : mH := wI h47 a0 8 ((mI h47 a0 8) + 1)
        replace H := H h48 rfl
        show Ek _ _ _ _ h48 _
        exact Ek.ret 1 (fun n => rfl) H
      · replace H := H.2 hc
        have c49 := H.1
        refine Ek.chk 3 (fun n => rfl) c49 ?_
        replace H := H.2
        refine Ek.chk 2 (fun n => rfl) c49 ?_
        refine Ek.callT 0 (fun n => rfl) c46 ?_
        refine Ek.mono H ?_
        rintro _ h50 ⟨x51, rfl, H⟩
        refine Ek.br 1 (fun n => rfl) (fun hc => ?_) (fun hc => ?_)
        · replace H := H.1 hc
          have c52 := H.1
          refine Ek.chk 2 (fun n => rfl) c52 ?_
          replace H := H.2
          obtain ⟨p53, e54, H⟩ := H
          show Ek _ _ _ (va_rf (mP h50 a0 2) :: _) _ _
          rw [e54]
          refine Ek.chk 3 (fun n => rfl) c52 ?_
          have c55 := H.1
          refine Ek.callT 5 (fun n => rfl) c55 ?_
          replace H := H.2
          refine Ek.mono H ?_
          rintro _ h56 ⟨x57, rfl, H⟩
          refine Ek.br 1 (fun n => rfl) (fun hc => ?_) (fun hc => ?_)
          · replace H := H.1 hc
            have c58 := H.1
            refine Ek.chk 3 (fun n => rfl) c58 ?_
            replace H := H.2
            refine Ek.chk 3 (fun n => rfl) c58 ?_
            let h59 : mH := wI h56 a0 8 ((mI h56 a0 8) + 1)
            replace H := H h59 rfl
            show Ek _ _ _ _ h59 _
            exact Ek.ret 1 (fun n => rfl) H
          · replace H := H.2 hc
            refine Ek.br 3 (fun n => rfl) (fun hc => ?_) (fun hc => ?_)
            · replace H := H.1 hc
              have c60 := H.1
              refine Ek.chk 2 (fun n => rfl) c60 ?_
              replace H := H.2
              obtain ⟨p61, e62, H⟩ := H
              show Ek _ _ _ (va_rf (mP h56 a0 2) :: _) _ _
              rw [e62]
              refine Ek.chk 3 (fun n => rfl) c60 ?_
              have c63 := H.1
              refine Ek.callT 3 (fun n => rfl) c63 ?_
              replace H := H.2
              refine Ek.mono H ?_
              rintro _ h64 ⟨x65, rfl, H⟩
              refine Ek.br 1 (fun n => rfl) (fun hc => ?_) (fun hc => ?_)
              · replace H := H.1 hc
                have c66 := H.1
                refine Ek.chk 3 (fun n => rfl) c66 ?_
                replace H := H.2
                refine Ek.chk 3 (fun n => rfl) c66 ?_
                let h67 : mH := wI h64 a0 8 ((mI h64 a0 8) + 1)
                replace H := H h67 rfl
                show Ek _ _ _ _ h67 _
                exact Ek.ret 1 (fun n => rfl) H
              · replace H := H.2 hc
                exact Ek.ret 1 (fun n => rfl) H
            · replace H := H.2 hc
              exact Ek.ret 1 (fun n => rfl) H
        · replace H := H.2 hc
          have c68 := H.1
          refine Ek.chk 3 (fun n => rfl) c68 ?_
          replace H := H.2
          refine Ek.chk 3 (fun n => rfl) c68 ?_
          let h69 : mH := wI h50 a0 8 ((mI h50 a0 8) + 1)
          replace H := H h69 rfl
          show Ek _ _ _ _ h69 _
          exact Ek.ret 1 (fun n => rfl) H
  · replace H := H.2 hc
    have c70 := H.1
    refine Ek.chk 10 (fun n => rfl) c70 ?_
    replace H := H.2
    obtain ⟨p71, e72, H⟩ := H
    show Ek _ _ _ (va_rf (mP h5 a0 3) :: _) _ _
    rw [e72]
    have c73 := H.1
    refine Ek.callT 1 (fun n => rfl) c73 ?_
    replace H := H.2
    refine Ek.mono H ?_
    rintro _ h74 ⟨rfl, H⟩
    have c75 := H.1
    refine Ek.chk 3 (fun n => rfl) c75 ?_
    replace H := H.2
    refine Ek.chk 3 (fun n => rfl) c75 ?_
    let h76 : mH := wI h74 a0 6 ((mI h74 a0 6) + 1)
    replace H := H h76 rfl
    show Ek _ _ _ _ h76 _
    have c77 := H.1
    refine Ek.chk 5 (fun n => rfl) c77 ?_
    replace H := H.2
    refine Ek.chk 2 (fun n => rfl) c77 ?_
    refine Ek.callT 0 (fun n => rfl) c75 ?_
    refine Ek.mono H ?_
    rintro _ h78 ⟨x79, rfl, H⟩
    refine Ek.br 1 (fun n => rfl) (fun hc => ?_) (fun hc => ?_)
    · replace H := H.1 hc
      have c80 := H.1
      refine Ek.chk 2 (fun n => rfl) c80 ?_
      replace H := H.2
      obtain ⟨p81, e82, H⟩ := H
      show Ek _ _ _ (va_rf (mP h78 a0 2) :: _) _ _
      rw [e82]
      refine Ek.chk 3 (fun n => rfl) c80 ?_
      have c83 := H.1
      refine Ek.callT 5 (fun n => rfl) c83 ?_
      replace H := H.2
      refine Ek.mono H ?_
      rintro _ h84 ⟨x85, rfl, H⟩
      refine Ek.br 1 (fun n => rfl) (fun hc => ?_) (fun hc => ?_)
      · replace H := H.1 hc
        have c86 := H.1
        refine Ek.chk 3 (fun n => rfl) c86 ?_
        replace H := H.2
        refine Ek.chk 3 (fun n => rfl) c86 ?_
        let h87 : mH := wI h84 a0 8 ((mI h84 a0 8) + 1)
        replace H := H h87 rfl
        show Ek _ _ _ _ h87 _
        exact Ek.ret 1 (fun n => rfl) H
      · replace H := H.2 hc
        exact Ek.ret 4 (fun n => rfl) H
    · replace H := H.2 hc
      have c88 := H.1
      refine Ek.chk 3 (fun n => rfl) c88 ?_
      replace H := H.2
      refine Ek.chk 3 (fun n => rfl) c88 ?_
      let h89 : mH := wI h78 a0 8 ((mI h78 a0 8) + 1)
      replace H := H h89 rfl
      show Ek _ _ _ _ h89 _
      exact Ek.ret 1 (fun n => rfl) H

/-- RoundVotes.areOnUnlikeSides(II)Z, from 0 -/
set_option maxRecDepth 4000 in
theorem T74 {a0 : Nat} {a1 : Int32} {a2 : Int32} {h : mH} {K : Option Value → mH → Prop} (H : (mTg h a0 = 11) ∧ (((mI h a0 5) < (mI h a0 10) → (K (some (.int 0)) h)) ∧ (¬ (mI h a0 5) < (mI h a0 10) → (((mI h a0 11) < (mI h a0 5) → (K (some (.int 0)) h)) ∧ (¬ (mI h a0 11) < (mI h a0 5) → (((((mI h a0 9) >>> (a1 &&& 31)) &&& 1) = (((mI h a0 9) >>> (a2 &&& 31)) &&& 1) → (K (some (.int 0)) h)) ∧ (¬ (((mI h a0 9) >>> (a1 &&& 31)) &&& 1) = (((mI h a0 9) >>> (a2 &&& 31)) &&& 1) → (K (some (.int 1)) h)))))))) : Ek 74 0 [some (.ref a0), some (.int a1), some (.int a2), none] [] h K := by
  have c1 := H.1
  refine Ek.chk 2 (fun n => rfl) c1 ?_
  replace H := H.2
  refine Ek.chk 2 (fun n => rfl) c1 ?_
  refine Ek.br 1 (fun n => rfl) (fun hc => ?_) (fun hc => ?_)
  · replace H := H.1 hc
    exact Ek.ret 6 (fun n => rfl) H
  · replace H := H.2 hc
    refine Ek.chk 2 (fun n => rfl) c1 ?_
    refine Ek.chk 2 (fun n => rfl) c1 ?_
    refine Ek.br 1 (fun n => rfl) (fun hc => ?_) (fun hc => ?_)
    · replace H := H.1 hc
      exact Ek.ret 6 (fun n => rfl) H
    · replace H := H.2 hc
      refine Ek.chk 7 (fun n => rfl) c1 ?_
      refine Ek.chk 6 (fun n => rfl) c1 ?_
      refine Ek.br 5 (fun n => rfl) (fun hc => ?_) (fun hc => ?_)
      · replace H := H.1 hc
        exact Ek.ret 2 (fun n => rfl) H
      · replace H := H.2 hc
        exact Ek.ret 3 (fun n => rfl) H

/-- RoundVotes.bringNodesBack()V, from 0 -/
set_option maxRecDepth 4000 in
theorem T75 {a0 : Nat} {h : mH} {K : Option Value → mH → Prop} (H : Ek 75 2 [some (.ref a0), some (.int 0), none] [] h K) : Ek 75 0 [some (.ref a0), none, none] [] h K := by
  exact Ek.go 2 (fun n => rfl) H

/-- RoundVotes.bringNodesBack()V, from 2 -/
set_option maxRecDepth 4000 in
theorem T75_2 {v0 : Nat} {v1 : Int32} {h : mH} {K : Option Value → mH → Prop} (H : (mTg h v0 = 11) ∧ (∃ p2, mP h v0 0 = some p2 ∧ ((mTg h p2 = 9) ∧ (((mI h p2 0) ≤ v1 → (K none h)) ∧ (¬ (mI h p2 0) ≤ v1 → (∃ p5, mP h v0 1 = some p5 ∧ (((mTg h p5 = 23 ∨ mTg h p5 = 24 ∨ mTg h p5 = 25) ∧ ¬ v1 < 0 ∧ (v1.toNatClampNeg) < mLn h p5) ∧ (∃ p8, mP h p5 (v1.toNatClampNeg) = some p8 ∧ ((mTg h p8 = 7) ∧ (((mI h p8 8) ≤ 0 → (Ek 75 2 [some (.ref v0), some (.int (v1 + 1)), some (.ref p8)] [] h K)) ∧ (¬ (mI h p8 8) ≤ 0 → (((mI h v0 5) ≤ (mI h p8 8) → (Ek 75 2 [some (.ref v0), some (.int (v1 + 1)), some (.ref p8)] [] h K)) ∧ (¬ (mI h v0 5) ≤ (mI h p8 8) → (Ek 57 0 [some (.ref p8), some (.int (mI h v0 5)), none, none, none] [] h (fun r h11 => r = none ∧ ((mTg h11 v0 = 11) ∧ (Ek 71 0 [some (.ref v0), some (.ref p8), none] [] h11 (fun r h13 => r = none ∧ (Ek 75 2 [some (.ref v0), some (.int (v1 + 1)), some (.ref p8)] [] h13 K))))))))))))))))))) : Ek 75 2 [some (.ref v0), some (.int v1), none] [] h K := by
  have c1 := H.1
  refine Ek.chk 3 (fun n => rfl) c1 ?_
  replace H := H.2
  obtain ⟨p2, e3, H⟩ := H
  show Ek _ _ _ (va_rf (mP h v0 0) :: _) _ _
  rw [e3]
  have c4 := H.1
  refine Ek.chk 1 (fun n => rfl) c4 ?_
  replace H := H.2
  refine Ek.br 1 (fun n => rfl) (fun hc => ?_) (fun hc => ?_)
  · replace H := H.1 hc
    exact Ek.ret 1 (fun n => rfl) H
  · replace H := H.2 hc
    refine Ek.chk 2 (fun n => rfl) c1 ?_
    obtain ⟨p5, e6, H⟩ := H
    show Ek _ _ _ (va_rf (mP h v0 1) :: _) _ _
    rw [e6]
    have c7 := H.1
    refine Ek.chk 2 (fun n => rfl) c7 ?_
    replace H := H.2
    obtain ⟨p8, e9, H⟩ := H
    show Ek _ _ _ (va_rf (mP h p5 (v1.toNatClampNeg)) :: _) _ _
    rw [e9]
    have c10 := H.1
    refine Ek.callT 2 (fun n => rfl) c10 ?_
    replace H := H.2
    refine Ek.chk 2 (fun n => rfl) c10 ?_
    refine Ek.br 1 (fun n => rfl) (fun hc => ?_) (fun hc => ?_)
    · replace H := H.1 hc
      refine Ek.ret 2 (fun n => rfl) ?_
      exact Ek.go 3 (fun n => rfl) H
    · replace H := H.2 hc
      refine Ek.ret 3 (fun n => rfl) ?_
      refine Ek.chk 3 (fun n => rfl) c1 ?_
      refine Ek.chk 2 (fun n => rfl) c10 ?_
      refine Ek.br 1 (fun n => rfl) (fun hc => ?_) (fun hc => ?_)
      · replace H := H.1 hc
        exact Ek.go 2 (fun n => rfl) H
      · replace H := H.2 hc
        refine Ek.chk 3 (fun n => rfl) c1 ?_
        refine Ek.callT 0 (fun n => rfl) c10 ?_
        refine Ek.mono H ?_
        rintro _ h11 ⟨rfl, H⟩
        have c12 := H.1
        refine Ek.callT 2 (fun n => rfl) c12 ?_
        replace H := H.2
        refine Ek.mono H ?_
        rintro _ h13 ⟨rfl, H⟩
        exact Ek.go 2 (fun n => rfl) H

/-- RoundVotes.bringCopies()V, from 0 -/
set_option maxRecDepth 4000 in
theorem T76 {a0 : Nat} {h : mH} {K : Option Value → mH → Prop} (H : (mTg h a0 = 11) ∧ (∃ p2, mP h a0 2 = some p2 ∧ ((mTg h p2 = 5) ∧ (Ek 76 10 [some (.ref a0), some (.int (mI h p2 1)), some (.int 0), none, none] [] h K)))) : Ek 76 0 [some (.ref a0), none, none, none, none] [] h K := by
  have c1 := H.1
  refine Ek.chk 2 (fun n => rfl) c1 ?_
  replace H := H.2
  obtain ⟨p2, e3, H⟩ := H
  show Ek _ _ _ (va_rf (mP h a0 2) :: _) _ _
  rw [e3]
  have c4 := H.1
  refine Ek.chk 1 (fun n => rfl) c4 ?_
  replace H := H.2
  exact Ek.go 3 (fun n => rfl) H

/-- RoundVotes.bringCopies()V, from 10 -/
set_option maxRecDepth 4000 in
theorem T76_10 {v0 : Nat} {v1 : Int32} {v2 : Int32} {h : mH} {K : Option Value → mH → Prop} (H : ((2 : Int32) ≤ v2 → ((mTg h v0 = 11) ∧ (∃ p2, mP h v0 2 = some p2 ∧ ((mTg h p2 = 5) ∧ (Ek 33 0 [some (.ref p2), some (.int (mI h v0 5)), none, none, none] [] h (fun r h5 => r = none ∧ (K none h5))))))) ∧ (¬ (2 : Int32) ≤ v2 → (Ek 76 17 [some (.ref v0), some (.int v1), some (.int v2), some (.int 0), none] [] h K))) : Ek 76 10 [some (.ref v0), some (.int v1), some (.int v2), none, none] [] h K := by
  refine Ek.br 3 (fun n => rfl) (fun hc => ?_) (fun hc => ?_)
  · replace H := H.1 hc
    have c1 := H.1
    refine Ek.chk 2 (fun n => rfl) c1 ?_
    replace H := H.2
    obtain ⟨p2, e3, H⟩ := H
    show Ek _ _ _ (va_rf (mP h v0 2) :: _) _ _
    rw [e3]
    refine Ek.chk 2 (fun n => rfl) c1 ?_
    have c4 := H.1
    refine Ek.callT 0 (fun n => rfl) c4 ?_
    replace H := H.2
    refine Ek.mono H ?_
    rintro _ h5 ⟨rfl, H⟩
    exact Ek.ret 1 (fun n => rfl) H
  · replace H := H.2 hc
    exact Ek.go 2 (fun n => rfl) H

/-- RoundVotes.bringCopies()V, from 17 -/
set_option maxRecDepth 4000 in
theorem T76_17 {v0 : Nat} {v1 : Int32} {v2 : Int32} {v3 : Int32} {h : mH} {K : Option Value → mH → Prop} (H : (v1 ≤ v3 → (Ek 76 10 [some (.ref v0), some (.int v1), some (.int (v2 + 1)), some (.int v3), none] [] h K)) ∧ (¬ v1 ≤ v3 → ((mTg h v0 = 11) ∧ (∃ p2, mP h v0 2 = some p2 ∧ ((mTg h p2 = 5) ∧ (∃ p5, mP h p2 0 = some p5 ∧ (((mTg h p5 = 23 ∨ mTg h p5 = 24 ∨ mTg h p5 = 25) ∧ ¬ v3 < 0 ∧ (v3.toNatClampNeg) < mLn h p5) ∧ (∃ p8, mP h p5 (v3.toNatClampNeg) = some p8 ∧ ((mTg h p8 = 6) ∧ (((mI h p8 7) = (mI h v0 5) → ((v2 = 1 → (((mI h p8 8) = 1 → (Ek 77 0 [some (.ref v0), some (.ref p8), none] [] h (fun r h11 => r = none ∧ ((mTg h11 v0 = 11) ∧ (∃ p13, mP h11 v0 1 = some p13 ∧ ((mTg h11 p8 = 6) ∧ (((mTg h11 p13 = 23 ∨ mTg h11 p13 = 24 ∨ mTg h11 p13 = 25) ∧ ¬ (mI h11 p8 1) < 0 ∧ ((mI h11 p8 1).toNatClampNeg) < mLn h11 p13) ∧ (∃ p17, mP h11 p13 ((mI h11 p8 1).toNatClampNeg) = some p17 ∧ (Ek 71 0 [some (.ref v0), some (.ref p17), none] [] h11 (fun r h19 => r = none ∧ (Ek 76 17 [some (.ref v0), some (.int v1), some (.int v2), some (.int (v3 + 1)), some (.ref p8)] [] h19 K))))))))))) ∧ (¬ (mI h p8 8) = 1 → (Ek 76 17 [some (.ref v0), some (.int v1), some (.int v2), some (.int (v3 + 1)), some (.ref p8)] [] h K)))) ∧ (¬ v2 = 1 → (((mI h p8 8) = 0 → (Ek 77 0 [some (.ref v0), some (.ref p8), none] [] h (fun r h20 => r = none ∧ ((mTg h20 v0 = 11) ∧ (∃ p22, mP h20 v0 1 = some p22 ∧ ((mTg h20 p8 = 6) ∧ (((mTg h20 p22 = 23 ∨ mTg h20 p22 = 24 ∨ mTg h20 p22 = 25) ∧ ¬ (mI h20 p8 1) < 0 ∧ ((mI h20 p8 1).toNatClampNeg) < mLn h20 p22) ∧ (∃ p26, mP h20 p22 ((mI h20 p8 1).toNatClampNeg) = some p26 ∧ (Ek 71 0 [some (.ref v0), some (.ref p26), none] [] h20 (fun r h28 => r = none ∧ (Ek 76 17 [some (.ref v0), some (.int v1), some (.int v2), some (.int (v3 + 1)), some (.ref p8)] [] h28 K))))))))))) ∧ (¬ (mI h p8 8) = 0 → (Ek 76 17 [some (.ref v0), some (.int v1), some (.int v2), some (.int (v3 + 1)), some (.ref p8)] [] h K)))))) ∧ (¬ (mI h p8 7) = (mI h v0 5) → (Ek 76 17 [some (.ref v0), some (.int v1), some (.int v2), some (.int (v3 + 1)), some (.ref p8)] [] h K)))))))))))) : Ek 76 17 [some (.ref v0), some (.int v1), some (.int v2), some (.int v3), none] [] h K := by
  refine Ek.br 3 (fun n => rfl) (fun hc => ?_) (fun hc => ?_)
  · replace H := H.1 hc
    exact Ek.go 2 (fun n => rfl) H
  · replace H := H.2 hc
    have c1 := H.1
    refine Ek.chk 2 (fun n => rfl) c1 ?_
    replace H := H.2
    obtain ⟨p2, e3, H⟩ := H
    show Ek _ _ _ (va_rf (mP h v0 2) :: _) _ _
    rw [e3]
    have c4 := H.1
    refine Ek.chk 1 (fun n => rfl) c4 ?_
    replace H := H.2
    obtain ⟨p5, e6, H⟩ := H
    show Ek _ _ _ (va_rf (mP h p2 0) :: _) _ _
    rw [e6]
    have c7 := H.1
    refine Ek.chk 2 (fun n => rfl) c7 ?_
    replace H := H.2
    obtain ⟨p8, e9, H⟩ := H
    show Ek _ _ _ (va_rf (mP h p5 (v3.toNatClampNeg)) :: _) _ _
    rw [e9]
    have c10 := H.1
    refine Ek.chk 5 (fun n => rfl) c10 ?_
    replace H := H.2
    refine Ek.chk 2 (fun n => rfl) c1 ?_
    refine Ek.br 1 (fun n => rfl) (fun hc => ?_) (fun hc => ?_)
    · replace H := H.1 hc
      refine Ek.chk 2 (fun n => rfl) c10 ?_
      refine Ek.br 3 (fun n => rfl) (fun hc => ?_) (fun hc => ?_)
      · replace H := H.1 hc
        refine Ek.br 3 (fun n => rfl) (fun hc => ?_) (fun hc => ?_)
        · replace H := H.1 hc
          refine Ek.callT 2 (fun n => rfl) c1 ?_
          refine Ek.mono H ?_
          rintro _ h11 ⟨rfl, H⟩
          have c12 := H.1
          refine Ek.chk 3 (fun n => rfl) c12 ?_
          replace H := H.2
          obtain ⟨p13, e14, H⟩ := H
          show Ek _ _ _ (va_rf (mP h11 v0 1) :: _) _ _
          rw [e14]
          have c15 := H.1
          refine Ek.chk 2 (fun n => rfl) c15 ?_
          replace H := H.2
          have c16 := H.1
          refine Ek.chk 1 (fun n => rfl) c16 ?_
          replace H := H.2
          obtain ⟨p17, e18, H⟩ := H
          show Ek _ _ _ (va_rf (mP h11 p13 ((mI h11 p8 1).toNatClampNeg)) :: _) _ _
          rw [e18]
          refine Ek.callT 0 (fun n => rfl) c12 ?_
          refine Ek.mono H ?_
          rintro _ h19 ⟨rfl, H⟩
          exact Ek.go 2 (fun n => rfl) H
        · replace H := H.2 hc
          exact Ek.go 2 (fun n => rfl) H
      · replace H := H.2 hc
        refine Ek.br 2 (fun n => rfl) (fun hc => ?_) (fun hc => ?_)
        · replace H := H.1 hc
          refine Ek.callT 2 (fun n => rfl) c1 ?_
          refine Ek.mono H ?_
          rintro _ h20 ⟨rfl, H⟩
          have c21 := H.1
          refine Ek.chk 3 (fun n => rfl) c21 ?_
          replace H := H.2
          obtain ⟨p22, e23, H⟩ := H
          show Ek _ _ _ (va_rf (mP h20 v0 1) :: _) _ _
          rw [e23]
          have c24 := H.1
          refine Ek.chk 2 (fun n => rfl) c24 ?_
          replace H := H.2
          have c25 := H.1
          refine Ek.chk 1 (fun n => rfl) c25 ?_
          replace H := H.2
          obtain ⟨p26, e27, H⟩ := H
          show Ek _ _ _ (va_rf (mP h20 p22 ((mI h20 p8 1).toNatClampNeg)) :: _) _ _
          rw [e27]
          refine Ek.callT 0 (fun n => rfl) c21 ?_
          refine Ek.mono H ?_
          rintro _ h28 ⟨rfl, H⟩
          exact Ek.go 2 (fun n => rfl) H
        · replace H := H.2 hc
          exact Ek.go 2 (fun n => rfl) H
    · replace H := H.2 hc
      exact Ek.go 2 (fun n => rfl) H

/-- RoundVotes.handOver(LRoundVotes$Message;)V, from 0 -/
set_option maxRecDepth 4000 in
theorem T77 {a0 : Nat} {a1 : Nat} {h : mH} {K : Option Value → mH → Prop} (H : (mTg h a0 = 11) ∧ (∃ p2, mP h a0 2 = some p2 ∧ ((mTg h p2 = 5) ∧ (∀ h5, h5 = wI h p2 2 ((mI h p2 2) - 1) → (∃ p6, mP h a0 1 = some p6 ∧ ((mTg h a1 = 6) ∧ (((mTg h p6 = 23 ∨ mTg h p6 = 24 ∨ mTg h p6 = 25) ∧ ¬ (mI h5 a1 1) < 0 ∧ ((mI h5 a1 1).toNatClampNeg) < mLn h p6) ∧ (∃ p10, mP h p6 ((mI h5 a1 1).toNatClampNeg) = some p10 ∧ ((mTg h p10 = 7) ∧ (((mI h5 p10 8) ≤ 0 → (∀ h13, h13 = wI h5 a0 7 ((mI h5 a0 7) + 1) → (Ek 58 0 [some (.ref p10), some (.ref a1), none] [] h13 (fun r h14 => ∃ x15 : Int32, r = some (.int x15) ∧ ((x15 = 0 → ((mTg h14 a0 = 11) ∧ (∃ p17, mP h14 a0 4 = some p17 ∧ ((mTg h14 p17 = 4) ∧ (Ek 19 0 [some (.ref p17), some (.ref a1), some (.int (mI h14 a0 5)), none] [] h14 (fun r h20 => r = none ∧ (K none h20))))))) ∧ (¬ x15 = 0 → (K none h14))))))) ∧ (¬ (mI h5 p10 8) ≤ 0 → (∀ h21, h21 = wI h5 a0 8 ((mI h5 a0 8) + 1) → (K none h21))))))))))))) : Ek 77 0 [some (.ref a0), some (.ref a1), none] [] h K := by
  have c1 := H.1
  refine Ek.chk 2 (fun n => rfl) c1 ?_
  replace H := H.2
  obtain ⟨p2, e3, H⟩ := H
  show Ek _ _ _ (va_rf (mP h a0 2) :: _) _ _
  rw [e3]
  have c4 := H.1
  refine Ek.chk 2 (fun n => rfl) c4 ?_
  replace H := H.2
  refine Ek.chk 3 (fun n => rfl) c4 ?_
  let h5 : mH := wI h p2 2 ((mI h p2 2) - 1)
  replace H := H h5 rfl
  show Ek _ _ _ _ h5 _
  refine Ek.chk 2 (fun n => rfl) c1 ?_
  obtain ⟨p6, e7, H⟩ := H
  show Ek _ _ _ (va_rf (mP h a0 1) :: _) _ _
  rw [e7]
  have c8 := H.1
  refine Ek.chk 2 (fun n => rfl) c8 ?_
  replace H := H.2
  have c9 := H.1
  refine Ek.chk 1 (fun n => rfl) c9 ?_
  replace H := H.2
  obtain ⟨p10, e11, H⟩ := H
  show Ek _ _ _ (va_rf (mP h p6 ((mI h5 a1 1).toNatClampNeg)) :: _) _ _
  rw [e11]
  have c12 := H.1
  refine Ek.callT 2 (fun n => rfl) c12 ?_
  replace H := H.2
  refine Ek.chk 2 (fun n => rfl) c12 ?_
  refine Ek.br 1 (fun n => rfl) (fun hc => ?_) (fun hc => ?_)
  · replace H := H.1 hc
    refine Ek.ret 2 (fun n => rfl) ?_
    refine Ek.chk 4 (fun n => rfl) c1 ?_
    refine Ek.chk 3 (fun n => rfl) c1 ?_
    let h13 : mH := wI h5 a0 7 ((mI h5 a0 7) + 1)
    replace H := H h13 rfl
    show Ek _ _ _ _ h13 _
    refine Ek.callT 2 (fun n => rfl) c12 ?_
    refine Ek.mono H ?_
    rintro _ h14 ⟨x15, rfl, H⟩
    refine Ek.br 1 (fun n => rfl) (fun hc => ?_) (fun hc => ?_)
    · replace H := H.1 hc
      have c16 := H.1
      refine Ek.chk 2 (fun n => rfl) c16 ?_
      replace H := H.2
      obtain ⟨p17, e18, H⟩ := H
      show Ek _ _ _ (va_rf (mP h14 a0 4) :: _) _ _
      rw [e18]
      refine Ek.chk 3 (fun n => rfl) c16 ?_
      have c19 := H.1
      refine Ek.callT 0 (fun n => rfl) c19 ?_
      replace H := H.2
      refine Ek.mono H ?_
      rintro _ h20 ⟨rfl, H⟩
      exact Ek.ret 1 (fun n => rfl) H
    · replace H := H.2 hc
      exact Ek.ret 1 (fun n => rfl) H
  · replace H := H.2 hc
    refine Ek.ret 3 (fun n => rfl) ?_
    refine Ek.chk 4 (fun n => rfl) c1 ?_
    refine Ek.chk 3 (fun n => rfl) c1 ?_
    let h21 : mH := wI h5 a0 8 ((mI h5 a0 8) + 1)
    replace H := H h21 rfl
    show Ek _ _ _ _ h21 _
    exact Ek.ret 1 (fun n => rfl) H

/-- RoundVotes.endTimers()V, from 0 -/
set_option maxRecDepth 4000 in
theorem T78 {a0 : Nat} {h : mH} {K : Option Value → mH → Prop} (H : Ek 78 2 [some (.ref a0), some (.int 0), none, none] [] h K) : Ek 78 0 [some (.ref a0), none, none, none] [] h K := by
  exact Ek.go 2 (fun n => rfl) H

/-- RoundVotes.endTimers()V, from 2 -/
set_option maxRecDepth 4000 in
theorem T78_2 {v0 : Nat} {v1 : Int32} {h : mH} {K : Option Value → mH → Prop} (H : (mTg h v0 = 11) ∧ (∃ p2, mP h v0 0 = some p2 ∧ ((mTg h p2 = 9) ∧ (((mI h p2 0) ≤ v1 → (K none h)) ∧ (¬ (mI h p2 0) ≤ v1 → (∃ p5, mP h v0 1 = some p5 ∧ (((mTg h p5 = 23 ∨ mTg h p5 = 24 ∨ mTg h p5 = 25) ∧ ¬ v1 < 0 ∧ (v1.toNatClampNeg) < mLn h p5) ∧ (∃ p8, mP h p5 (v1.toNatClampNeg) = some p8 ∧ (Ek 78 22 [some (.ref v0), some (.int v1), some (.ref p8), some (.int 0)] [] h K))))))))) : Ek 78 2 [some (.ref v0), some (.int v1), none, none] [] h K := by
  have c1 := H.1
  refine Ek.chk 3 (fun n => rfl) c1 ?_
  replace H := H.2
  obtain ⟨p2, e3, H⟩ := H
  show Ek _ _ _ (va_rf (mP h v0 0) :: _) _ _
  rw [e3]
  have c4 := H.1
  refine Ek.chk 1 (fun n => rfl) c4 ?_
  replace H := H.2
  refine Ek.br 1 (fun n => rfl) (fun hc => ?_) (fun hc => ?_)
  · replace H := H.1 hc
    exact Ek.ret 1 (fun n => rfl) H
  · replace H := H.2 hc
    refine Ek.chk 2 (fun n => rfl) c1 ?_
    obtain ⟨p5, e6, H⟩ := H
    show Ek _ _ _ (va_rf (mP h v0 1) :: _) _ _
    rw [e6]
    have c7 := H.1
    refine Ek.chk 2 (fun n => rfl) c7 ?_
    replace H := H.2
    obtain ⟨p8, e9, H⟩ := H
    show Ek _ _ _ (va_rf (mP h p5 (v1.toNatClampNeg)) :: _) _ _
    rw [e9]
    exact Ek.go 3 (fun n => rfl) H

/-- RoundVotes.endTimers()V, from 22 -/
set_option maxRecDepth 4000 in
theorem T78_22 {v0 : Nat} {v1 : Int32} {v2 : Nat} {v3 : Int32} {h : mH} {K : Option Value → mH → Prop} (H : ((3 : Int32) ≤ v3 → (Ek 78 2 [some (.ref v0), some (.int (v1 + 1)), some (.ref v2), some (.int v3)] [] h K)) ∧ (¬ (3 : Int32) ≤ v3 → ((mTg h v2 = 7) ∧ (((mI h v2 8) ≤ 0 → (∃ p2, mP h v2 9 = some p2 ∧ (((mTg h p2 = 20 ∨ mTg h p2 = 30) ∧ ¬ v3 < 0 ∧ (v3.toNatClampNeg) < mLn h p2) ∧ ((mTg h v0 = 11) ∧ (((mI h p2 (v3.toNatClampNeg)) = (mI h v0 5) → (Ek 59 0 [some (.ref v2), some (.int v3), some (.int (mI h v0 5))] [] h (fun r h6 => r = none ∧ ((mTg h6 v0 = 11) ∧ (Ek 71 0 [some (.ref v0), some (.ref v2), none] [] h6 (fun r h8 => r = none ∧ (Ek 78 22 [some (.ref v0), some (.int v1), some (.ref v2), some (.int (v3 + 1))] [] h8 K))))))) ∧ (¬ (mI h p2 (v3.toNatClampNeg)) = (mI h v0 5) → (Ek 78 22 [some (.ref v0), some (.int v1), some (.ref v2), some (.int (v3 + 1))] [] h K))))))) ∧ (¬ (mI h v2 8) ≤ 0 → (Ek 78 22 [some (.ref v0), some (.int v1), some (.ref v2), some (.int (v3 + 1))] [] h K)))))) : Ek 78 22 [some (.ref v0), some (.int v1), some (.ref v2), some (.int v3)] [] h K := by
  refine Ek.br 3 (fun n => rfl) (fun hc => ?_) (fun hc => ?_)
  · replace H := H.1 hc
    exact Ek.go 2 (fun n => rfl) H
  · replace H := H.2 hc
    have c1 := H.1
    refine Ek.callT 1 (fun n => rfl) c1 ?_
    replace H := H.2
    refine Ek.chk 2 (fun n => rfl) c1 ?_
    refine Ek.br 1 (fun n => rfl) (fun hc => ?_) (fun hc => ?_)
    · replace H := H.1 hc
      refine Ek.ret 2 (fun n => rfl) ?_
      refine Ek.chk 3 (fun n => rfl) c1 ?_
      obtain ⟨p2, e3, H⟩ := H
      show Ek _ _ _ (va_rf (mP h v2 9) :: _) _ _
      rw [e3]
      have c4 := H.1
      refine Ek.chk 2 (fun n => rfl) c4 ?_
      replace H := H.2
      have c5 := H.1
      refine Ek.chk 2 (fun n => rfl) c5 ?_
      replace H := H.2
      refine Ek.br 1 (fun n => rfl) (fun hc => ?_) (fun hc => ?_)
      · replace H := H.1 hc
        refine Ek.chk 4 (fun n => rfl) c5 ?_
        refine Ek.callT 0 (fun n => rfl) c1 ?_
        refine Ek.mono H ?_
        rintro _ h6 ⟨rfl, H⟩
        have c7 := H.1
        refine Ek.callT 2 (fun n => rfl) c7 ?_
        replace H := H.2
        refine Ek.mono H ?_
        rintro _ h8 ⟨rfl, H⟩
        exact Ek.go 2 (fun n => rfl) H
      · replace H := H.2 hc
        exact Ek.go 2 (fun n => rfl) H
    · replace H := H.2 hc
      refine Ek.ret 3 (fun n => rfl) ?_
      exact Ek.go 3 (fun n => rfl) H

/-- RoundVotes.catchUp(I)I, from 0 -/
set_option maxRecDepth 4000 in
theorem T79 {a0 : Nat} {a1 : Int32} {h : mH} {K : Option Value → mH → Prop} (H : (mTg h a0 = 11) ∧ ((a1 < 0 → (K (some (.int (-1))) h)) ∧ (¬ a1 < 0 → (∃ p2, mP h a0 0 = some p2 ∧ ((mTg h p2 = 9) ∧ (((mI h p2 0) ≤ a1 → (K (some (.int (-1))) h)) ∧ (¬ (mI h p2 0) ≤ a1 → (∃ p5, mP h a0 1 = some p5 ∧ (((mTg h p5 = 23 ∨ mTg h p5 = 24 ∨ mTg h p5 = 25) ∧ ¬ a1 < 0 ∧ (a1.toNatClampNeg) < mLn h p5) ∧ (∃ p8, mP h p5 (a1.toNatClampNeg) = some p8 ∧ (((mI h a0 5) = 0 → (K (some (.int (-2))) h)) ∧ (¬ (mI h a0 5) = 0 → ((mTg h p8 = 7) ∧ (((mI h p8 8) ≤ 0 → (Ek 79 42 [some (.ref a0), some (.int a1), some (.ref p8), some (.int 0), some (.int (mI h p8 2)), none] [] h K)) ∧ (¬ (mI h p8 8) ≤ 0 → (K (some (.int (-2))) h)))))))))))))))) : Ek 79 0 [some (.ref a0), some (.int a1), none, none, none, none] [] h K := by
  have c1 := H.1
  refine Ek.callT 2 (fun n => rfl) c1 ?_
  replace H := H.2
  refine Ek.br 2 (fun n => rfl) (fun hc => ?_) (fun hc => ?_)
  · replace H := H.1 hc
    refine Ek.ret 2 (fun n => rfl) ?_
    exact Ek.ret 3 (fun n => rfl) H
  · replace H := H.2 hc
    refine Ek.chk 3 (fun n => rfl) c1 ?_
    obtain ⟨p2, e3, H⟩ := H
    show Ek _ _ _ (va_rf (mP h a0 0) :: _) _ _
    rw [e3]
    have c4 := H.1
    refine Ek.chk 1 (fun n => rfl) c4 ?_
    replace H := H.2
    refine Ek.br 1 (fun n => rfl) (fun hc => ?_) (fun hc => ?_)
    · replace H := H.1 hc
      refine Ek.ret 2 (fun n => rfl) ?_
      exact Ek.ret 3 (fun n => rfl) H
    · replace H := H.2 hc
      refine Ek.ret 3 (fun n => rfl) ?_
      refine Ek.chk 3 (fun n => rfl) c1 ?_
      obtain ⟨p5, e6, H⟩ := H
      show Ek _ _ _ (va_rf (mP h a0 1) :: _) _ _
      rw [e6]
      have c7 := H.1
      refine Ek.chk 2 (fun n => rfl) c7 ?_
      replace H := H.2
      obtain ⟨p8, e9, H⟩ := H
      show Ek _ _ _ (va_rf (mP h p5 (a1.toNatClampNeg)) :: _) _ _
      rw [e9]
      refine Ek.chk 3 (fun n => rfl) c1 ?_
      refine Ek.br 1 (fun n => rfl) (fun hc => ?_) (fun hc => ?_)
      · replace H := H.1 hc
        exact Ek.ret 2 (fun n => rfl) H
      · replace H := H.2 hc
        have c10 := H.1
        refine Ek.callT 1 (fun n => rfl) c10 ?_
        replace H := H.2
        refine Ek.chk 2 (fun n => rfl) c10 ?_
        refine Ek.br 1 (fun n => rfl) (fun hc => ?_) (fun hc => ?_)
        · replace H := H.1 hc
          refine Ek.ret 2 (fun n => rfl) ?_
          refine Ek.chk 5 (fun n => rfl) c10 ?_
          exact Ek.go 1 (fun n => rfl) H
        · replace H := H.2 hc
          refine Ek.ret 3 (fun n => rfl) ?_
          exact Ek.ret 3 (fun n => rfl) H

/-- RoundVotes.catchUp(I)I, from 42 -/
set_option maxRecDepth 4000 in
theorem T79_42 {v0 : Nat} {v1 : Int32} {v2 : Nat} {v3 : Int32} {v4 : Int32} {h : mH} {K : Option Value → mH → Prop} (H : ((40 : Int32) < v4 → ((v3 ≤ 0 → (K (some (.int v3)) h)) ∧ (¬ v3 ≤ 0 → ((mTg h v0 = 11) ∧ ((mTg h v2 = 7) ∧ (Ek 38 0 [some (.ref v2), some (.int 0), some (.int (mI h v0 5)), none] [] h (fun r h3 => r = none ∧ ((mTg h3 v0 = 11) ∧ (Ek 71 0 [some (.ref v0), some (.ref v2), none] [] h3 (fun r h5 => r = none ∧ (K (some (.int v3)) h5))))))))))) ∧ (¬ (40 : Int32) < v4 → ((mTg h v0 = 11) ∧ (Ek 80 0 [some (.ref v0), some (.int v1), some (.int v4), none] [] h (fun r h7 => ∃ x8 : Int32, r = some (.int x8) ∧ (((0 : Int32) ≤ x8 → ((mTg h7 v0 = 11) ∧ (∃ p10, mP h7 v0 1 = some p10 ∧ (((mTg h7 p10 = 23 ∨ mTg h7 p10 = 24 ∨ mTg h7 p10 = 25) ∧ ¬ x8 < 0 ∧ (x8.toNatClampNeg) < mLn h7 p10) ∧ (∃ p13, mP h7 p10 (x8.toNatClampNeg) = some p13 ∧ ((mTg h7 v2 = 7) ∧ (Ek 60 0 [some (.ref v2), some (.ref p13), none] [] h7 (fun r h16 => r = none ∧ (Ek 79 42 [some (.ref v0), some (.int v1), some (.ref v2), some (.int (v3 + 1)), some (.int (v4 + 1)), some (.int x8)] [] h16 K))))))))) ∧ (¬ (0 : Int32) ≤ x8 → ((v3 ≤ 0 → (K (some (.int v3)) h7)) ∧ (¬ v3 ≤ 0 → ((mTg h7 v0 = 11) ∧ ((mTg h7 v2 = 7) ∧ (Ek 38 0 [some (.ref v2), some (.int 0), some (.int (mI h7 v0 5)), none] [] h7 (fun r h19 => r = none ∧ ((mTg h19 v0 = 11) ∧ (Ek 71 0 [some (.ref v0), some (.ref v2), none] [] h19 (fun r h21 => r = none ∧ (K (some (.int v3)) h21))))))))))))))))) : Ek 79 42 [some (.ref v0), some (.int v1), some (.ref v2), some (.int v3), some (.int v4), none] [] h K := by
  refine Ek.br 3 (fun n => rfl) (fun hc => ?_) (fun hc => ?_)
  · replace H := H.1 hc
    refine Ek.br 2 (fun n => rfl) (fun hc => ?_) (fun hc => ?_)
    · replace H := H.1 hc
      exact Ek.ret 2 (fun n => rfl) H
    · replace H := H.2 hc
      have c1 := H.1
      refine Ek.chk 4 (fun n => rfl) c1 ?_
      replace H := H.2
      have c2 := H.1
      refine Ek.callT 0 (fun n => rfl) c2 ?_
      replace H := H.2
      refine Ek.mono H ?_
      rintro _ h3 ⟨rfl, H⟩
      have c4 := H.1
      refine Ek.callT 2 (fun n => rfl) c4 ?_
      replace H := H.2
      refine Ek.mono H ?_
      rintro _ h5 ⟨rfl, H⟩
      exact Ek.ret 2 (fun n => rfl) H
  · replace H := H.2 hc
    have c6 := H.1
    refine Ek.callT 3 (fun n => rfl) c6 ?_
    replace H := H.2
    refine Ek.mono H ?_
    rintro _ h7 ⟨x8, rfl, H⟩
    refine Ek.br 3 (fun n => rfl) (fun hc => ?_) (fun hc => ?_)
    · replace H := H.1 hc
      have c9 := H.1
      refine Ek.chk 3 (fun n => rfl) c9 ?_
      replace H := H.2
      obtain ⟨p10, e11, H⟩ := H
      show Ek _ _ _ (va_rf (mP h7 v0 1) :: _) _ _
      rw [e11]
      have c12 := H.1
      refine Ek.chk 2 (fun n => rfl) c12 ?_
      replace H := H.2
      obtain ⟨p13, e14, H⟩ := H
      show Ek _ _ _ (va_rf (mP h7 p10 (x8.toNatClampNeg)) :: _) _ _
      rw [e14]
      have c15 := H.1
      refine Ek.callT 0 (fun n => rfl) c15 ?_
      replace H := H.2
      refine Ek.mono H ?_
      rintro _ h16 ⟨rfl, H⟩
      exact Ek.go 3 (fun n => rfl) H
    · replace H := H.2 hc
      refine Ek.br 3 (fun n => rfl) (fun hc => ?_) (fun hc => ?_)
      · replace H := H.1 hc
        exact Ek.ret 2 (fun n => rfl) H
      · replace H := H.2 hc
        have c17 := H.1
        refine Ek.chk 4 (fun n => rfl) c17 ?_
        replace H := H.2
        have c18 := H.1
        refine Ek.callT 0 (fun n => rfl) c18 ?_
        replace H := H.2
        refine Ek.mono H ?_
        rintro _ h19 ⟨rfl, H⟩
        have c20 := H.1
        refine Ek.callT 2 (fun n => rfl) c20 ?_
        replace H := H.2
        refine Ek.mono H ?_
        rintro _ h21 ⟨rfl, H⟩
        exact Ek.ret 2 (fun n => rfl) H

/-- RoundVotes.tellerOf(II)I, from 0 -/
set_option maxRecDepth 4000 in
theorem T80 {a0 : Nat} {a1 : Int32} {a2 : Int32} {h : mH} {K : Option Value → mH → Prop} (H : Ek 80 2 [some (.ref a0), some (.int a1), some (.int a2), some (.int 0)] [] h K) : Ek 80 0 [some (.ref a0), some (.int a1), some (.int a2), none] [] h K := by
  exact Ek.go 2 (fun n => rfl) H

/-- RoundVotes.tellerOf(II)I, from 2 -/
set_option maxRecDepth 4000 in
theorem T80_2 {v0 : Nat} {v1 : Int32} {v2 : Int32} {v3 : Int32} {h : mH} {K : Option Value → mH → Prop} (H : (mTg h v0 = 11) ∧ (∃ p2, mP h v0 0 = some p2 ∧ ((mTg h p2 = 9) ∧ (((mI h p2 0) ≤ v3 → (K (some (.int (-1))) h)) ∧ (¬ (mI h p2 0) ≤ v3 → ((v3 = v1 → (Ek 80 2 [some (.ref v0), some (.int v1), some (.int v2), some (.int (v3 + 1))] [] h K)) ∧ (¬ v3 = v1 → (∃ p5, mP h v0 1 = some p5 ∧ (((mTg h p5 = 23 ∨ mTg h p5 = 24 ∨ mTg h p5 = 25) ∧ ¬ v3 < 0 ∧ (v3.toNatClampNeg) < mLn h p5) ∧ (∃ p8, mP h p5 (v3.toNatClampNeg) = some p8 ∧ ((mTg h p8 = 7) ∧ (((mI h p8 8) ≤ 0 → (∃ p13, mP h p8 11 = some p13 ∧ ((mTg h p13 = 3) ∧ (∃ p16, mP h p13 0 = some p16 ∧ (((mTg h p16 = 20 ∨ mTg h p16 = 30) ∧ ¬ v2 < 0 ∧ (v2.toNatClampNeg) < mLn h p16) ∧ (((mI h p16 (v2.toNatClampNeg)) = 0 → (Ek 80 2 [some (.ref v0), some (.int v1), some (.int v2), some (.int (v3 + 1))] [] h K)) ∧ (¬ (mI h p16 (v2.toNatClampNeg)) = 0 → (K (some (.int v3)) h)))))))) ∧ (¬ (mI h p8 8) ≤ 0 → (Ek 80 2 [some (.ref v0), some (.int v1), some (.int v2), some (.int (v3 + 1))] [] h K)))))))))))))) : Ek 80 2 [some (.ref v0), some (.int v1), some (.int v2), some (.int v3)] [] h K := by
  have c1 := H.1
  refine Ek.chk 3 (fun n => rfl) c1 ?_
  replace H := H.2
  obtain ⟨p2, e3, H⟩ := H
  show Ek _ _ _ (va_rf (mP h v0 0) :: _) _ _
  rw [e3]
  have c4 := H.1
  refine Ek.chk 1 (fun n => rfl) c4 ?_
  replace H := H.2
  refine Ek.br 1 (fun n => rfl) (fun hc => ?_) (fun hc => ?_)
  · replace H := H.1 hc
    exact Ek.ret 2 (fun n => rfl) H
  · replace H := H.2 hc
    refine Ek.br 3 (fun n => rfl) (fun hc => ?_) (fun hc => ?_)
    · replace H := H.1 hc
      exact Ek.go 2 (fun n => rfl) H
    · replace H := H.2 hc
      refine Ek.chk 2 (fun n => rfl) c1 ?_
      obtain ⟨p5, e6, H⟩ := H
      show Ek _ _ _ (va_rf (mP h v0 1) :: _) _ _
      rw [e6]
      have c7 := H.1
      refine Ek.chk 2 (fun n => rfl) c7 ?_
      replace H := H.2
      obtain ⟨p8, e9, H⟩ := H
      show Ek _ _ _ (va_rf (mP h p5 (v3.toNatClampNeg)) :: _) _ _
      rw [e9]
      have c10 := H.1
      refine Ek.callT 0 (fun n => rfl) c10 ?_
      replace H := H.2
      refine Ek.chk 2 (fun n => rfl) c10 ?_
      refine Ek.br 1 (fun n => rfl) (fun hc => ?_) (fun hc => ?_)
      · replace H := H.1 hc
        refine Ek.ret 2 (fun n => rfl) ?_
        refine Ek.chk 3 (fun n => rfl) c1 ?_
        show Ek _ _ _ (va_rf (mP h v0 1) :: _) _ _
        rw [e6]
        refine Ek.chk 2 (fun n => rfl) c7 ?_
        show Ek _ _ _ (va_rf (mP h p5 (v3.toNatClampNeg)) :: _) _ _
        rw [e9]
        refine Ek.chk 1 (fun n => rfl) c10 ?_
        obtain ⟨p13, e14, H⟩ := H
        show Ek _ _ _ (va_rf (mP h p8 11) :: _) _ _
        rw [e14]
        have c15 := H.1
        refine Ek.callT 1 (fun n => rfl) c15 ?_
        replace H := H.2
        refine Ek.chk 2 (fun n => rfl) c15 ?_
        obtain ⟨p16, e17, H⟩ := H
        show Ek _ _ _ (va_rf (mP h p13 0) :: _) _ _
        rw [e17]
        have c18 := H.1
        refine Ek.chk 2 (fun n => rfl) c18 ?_
        replace H := H.2
        refine Ek.br 1 (fun n => rfl) (fun hc => ?_) (fun hc => ?_)
        · replace H := H.1 hc
          refine Ek.ret 2 (fun n => rfl) ?_
          exact Ek.go 3 (fun n => rfl) H
        · replace H := H.2 hc
          refine Ek.ret 3 (fun n => rfl) ?_
          exact Ek.ret 3 (fun n => rfl) H
      · replace H := H.2 hc
        refine Ek.ret 3 (fun n => rfl) ?_
        exact Ek.go 3 (fun n => rfl) H

/-- RoundVotes.node(II)I, from 0 -/
set_option maxRecDepth 4000 in
theorem T81 {a0 : Nat} {a1 : Int32} {a2 : Int32} {h : mH} {K : Option Value → mH → Prop} (H : (mTg h a0 = 11) ∧ ((a1 < 0 → (K (some (.int (-1))) h)) ∧ (¬ a1 < 0 → (∃ p2, mP h a0 0 = some p2 ∧ ((mTg h p2 = 9) ∧ (((mI h p2 0) ≤ a1 → (K (some (.int (-1))) h)) ∧ (¬ (mI h p2 0) ≤ a1 → (∃ p5, mP h a0 1 = some p5 ∧ (((mTg h p5 = 23 ∨ mTg h p5 = 24 ∨ mTg h p5 = 25) ∧ ¬ a1 < 0 ∧ (a1.toNatClampNeg) < mLn h p5) ∧ (∃ p8, mP h p5 (a1.toNatClampNeg) = some p8 ∧ ((a2 = 0 → ((mTg h p8 = 7) ∧ (K (some (.int (mI h p8 2))) h))) ∧ (a2 = 1 → ((mTg h p8 = 7) ∧ (K (some (.int (mI h p8 3))) h))) ∧ (a2 = 2 → ((mTg h p8 = 7) ∧ (K (some (.int (mI h p8 4))) h))) ∧ (a2 = 3 → ((mTg h p8 = 7) ∧ (∃ p18, mP h p8 5 = some p18 ∧ ((mTg h p18 = 2) ∧ (K (some (.int (mI h p18 0))) h))))) ∧ (a2 = 4 → ((mTg h p8 = 7) ∧ (∃ p23, mP h p8 5 = some p23 ∧ ((mTg h p23 = 2) ∧ (K (some (.int (mI h p23 1))) h))))) ∧ (a2 = 5 → ((mTg h p8 = 7) ∧ (∃ p28, mP h p8 6 = some p28 ∧ ((mTg h p28 = 2) ∧ (K (some (.int (mI h p28 0))) h))))) ∧ (a2 = 6 → ((mTg h p8 = 7) ∧ (∃ p33, mP h p8 6 = some p33 ∧ ((mTg h p33 = 2) ∧ (K (some (.int (mI h p33 1))) h))))) ∧ (a2 = 7 → ((mTg h p8 = 7) ∧ (K (some (.int (if (0 : Int32) < ((mI h p8 8) - (mI h a0 5)) then ((mI h p8 8) - (mI h a0 5)) else 0))) h))) ∧ (a2 = 8 → ((mTg h p8 = 7) ∧ (K (some (.int (mI h p8 7))) h))) ∧ (a2 = 9 → ((mTg h p8 = 7) ∧ (∃ p42, mP h p8 9 = some p42 ∧ (((mTg h p42 = 20 ∨ mTg h p42 = 30) ∧ ¬ (0 : Int32) < 0 ∧ ((0 : Int32).toNatClampNeg) < mLn h p42) ∧ (K (some (.int (mI h p42 ((0 : Int32).toNatClampNeg)))) h))))) ∧ (a2 = 10 → ((mTg h p8 = 7) ∧ (∃ p47, mP h p8 9 = some p47 ∧ (((mTg h p47 = 20 ∨ mTg h p47 = 30) ∧ ¬ (1 : Int32) < 0 ∧ ((1 : Int32).toNatClampNeg) < mLn h p47) ∧ (K (some (.int (mI h p47 ((1 : Int32).toNatClampNeg)))) h))))) ∧ (a2 = 11 → ((mTg h p8 = 7) ∧ (∃ p52, mP h p8 9 = some p52 ∧ (((mTg h p52 = 20 ∨ mTg h p52 = 30) ∧ ¬ (2 : Int32) < 0 ∧ ((2 : Int32).toNatClampNeg) < mLn h p52) ∧ (K (some (.int (mI h p52 ((2 : Int32).toNatClampNeg)))) h))))) ∧ (a2 = 12 → ((mTg h p8 = 7) ∧ (∃ p57, mP h p8 15 = some p57 ∧ ((mTg h p57 = 8) ∧ (K (some (.int (mI h p57 0))) h))))) ∧ (¬ a2 = 0 → ((¬ a2 = 1 → ((¬ a2 = 2 → ((¬ a2 = 3 → ((¬ a2 = 4 → ((¬ a2 = 5 → ((¬ a2 = 6 → ((¬ a2 = 7 → ((¬ a2 = 8 → ((¬ a2 = 9 → ((¬ a2 = 10 → ((¬ a2 = 11 → ((¬ a2 = 12 → (K (some (.int (-1))) h))))))))))))))))))))))))))))))))))))) : Ek 81 0 [some (.ref a0), some (.int a1), some (.int a2), none] [] h K := by
  have c1 := H.1
  refine Ek.callT 2 (fun n => rfl) c1 ?_
  replace H := H.2
  refine Ek.br 2 (fun n => rfl) (fun hc => ?_) (fun hc => ?_)
  · replace H := H.1 hc
    refine Ek.ret 2 (fun n => rfl) ?_
    exact Ek.ret 3 (fun n => rfl) H
  · replace H := H.2 hc
    refine Ek.chk 3 (fun n => rfl) c1 ?_
    obtain ⟨p2, e3, H⟩ := H
    show Ek _ _ _ (va_rf (mP h a0 0) :: _) _ _
    rw [e3]
    have c4 := H.1
    refine Ek.chk 1 (fun n => rfl) c4 ?_
    replace H := H.2
    refine Ek.br 1 (fun n => rfl) (fun hc => ?_) (fun hc => ?_)
    · replace H := H.1 hc
      refine Ek.ret 2 (fun n => rfl) ?_
      exact Ek.ret 3 (fun n => rfl) H
    · replace H := H.2 hc
      refine Ek.ret 3 (fun n => rfl) ?_
      refine Ek.chk 3 (fun n => rfl) c1 ?_
      obtain ⟨p5, e6, H⟩ := H
      show Ek _ _ _ (va_rf (mP h a0 1) :: _) _ _
      rw [e6]
      have c7 := H.1
      refine Ek.chk 2 (fun n => rfl) c7 ?_
      replace H := H.2
      obtain ⟨p8, e9, H⟩ := H
      show Ek _ _ _ (va_rf (mP h p5 (a1.toNatClampNeg)) :: _) _ _
      rw [e9]
      refine Ek.go 2 (fun n => rfl) ?_
      by_cases q10 : a2 = 0
      · replace H := H.1 q10
        rw [q10]
        refine Ek.go 1 (fun n => rfl) ?_
        have c11 := H.1
        refine Ek.chk 2 (fun n => rfl) c11 ?_
        replace H := H.2
        exact Ek.ret 1 (fun n => rfl) H
      replace H := H.2
      by_cases q12 : a2 = 1
      · replace H := H.1 q12
        rw [q12]
        refine Ek.go 1 (fun n => rfl) ?_
        have c13 := H.1
        refine Ek.chk 2 (fun n => rfl) c13 ?_
        replace H := H.2
        exact Ek.ret 1 (fun n => rfl) H
      replace H := H.2
      by_cases q14 : a2 = 2
      · replace H := H.1 q14
        rw [q14]
        refine Ek.go 1 (fun n => rfl) ?_
        have c15 := H.1
        refine Ek.chk 2 (fun n => rfl) c15 ?_
        replace H := H.2
        exact Ek.ret 1 (fun n => rfl) H
      replace H := H.2
      by_cases q16 : a2 = 3
      · replace H := H.1 q16
        rw [q16]
        refine Ek.go 1 (fun n => rfl) ?_
        have c17 := H.1
        refine Ek.chk 2 (fun n => rfl) c17 ?_
        replace H := H.2
        obtain ⟨p18, e19, H⟩ := H
        show Ek _ _ _ (va_rf (mP h p8 5) :: _) _ _
        rw [e19]
        have c20 := H.1
        refine Ek.chk 1 (fun n => rfl) c20 ?_
        replace H := H.2
        exact Ek.ret 1 (fun n => rfl) H
      replace H := H.2
      by_cases q21 : a2 = 4
      · replace H := H.1 q21
        rw [q21]
        refine Ek.go 1 (fun n => rfl) ?_
        have c22 := H.1
        refine Ek.chk 2 (fun n => rfl) c22 ?_
        replace H := H.2
        obtain ⟨p23, e24, H⟩ := H
        show Ek _ _ _ (va_rf (mP h p8 5) :: _) _ _
        rw [e24]
        have c25 := H.1
        refine Ek.chk 1 (fun n => rfl) c25 ?_
        replace H := H.2
        exact Ek.ret 1 (fun n => rfl) H
      replace H := H.2
      by_cases q26 : a2 = 5
      · replace H := H.1 q26
        rw [q26]
        refine Ek.go 1 (fun n => rfl) ?_
        have c27 := H.1
        refine Ek.chk 2 (fun n => rfl) c27 ?_
        replace H := H.2
        obtain ⟨p28, e29, H⟩ := H
        show Ek _ _ _ (va_rf (mP h p8 6) :: _) _ _
        rw [e29]
        have c30 := H.1
        refine Ek.chk 1 (fun n => rfl) c30 ?_
        replace H := H.2
        exact Ek.ret 1 (fun n => rfl) H
      replace H := H.2
      by_cases q31 : a2 = 6
      · replace H := H.1 q31
        rw [q31]
        refine Ek.go 1 (fun n => rfl) ?_
        have c32 := H.1
        refine Ek.chk 2 (fun n => rfl) c32 ?_
        replace H := H.2
        obtain ⟨p33, e34, H⟩ := H
        show Ek _ _ _ (va_rf (mP h p8 6) :: _) _ _
        rw [e34]
        have c35 := H.1
        refine Ek.chk 1 (fun n => rfl) c35 ?_
        replace H := H.2
        exact Ek.ret 1 (fun n => rfl) H
      replace H := H.2
      by_cases q36 : a2 = 7
      · replace H := H.1 q36
        rw [q36]
        refine Ek.go 1 (fun n => rfl) ?_
        have c37 := H.1
        refine Ek.chk 3 (fun n => rfl) c37 ?_
        replace H := H.2
        refine Ek.chk 2 (fun n => rfl) c1 ?_
        exact Ek.ret 3 (fun n => rfl) H
      replace H := H.2
      by_cases q38 : a2 = 8
      · replace H := H.1 q38
        rw [q38]
        refine Ek.go 1 (fun n => rfl) ?_
        have c39 := H.1
        refine Ek.chk 2 (fun n => rfl) c39 ?_
        replace H := H.2
        exact Ek.ret 1 (fun n => rfl) H
      replace H := H.2
      by_cases q40 : a2 = 9
      · replace H := H.1 q40
        rw [q40]
        refine Ek.go 1 (fun n => rfl) ?_
        have c41 := H.1
        refine Ek.chk 2 (fun n => rfl) c41 ?_
        replace H := H.2
        obtain ⟨p42, e43, H⟩ := H
        show Ek _ _ _ (va_rf (mP h p8 9) :: _) _ _
        rw [e43]
        have c44 := H.1
        refine Ek.chk 2 (fun n => rfl) c44 ?_
        replace H := H.2
        exact Ek.ret 1 (fun n => rfl) H
      replace H := H.2
      by_cases q45 : a2 = 10
      · replace H := H.1 q45
        rw [q45]
        refine Ek.go 1 (fun n => rfl) ?_
        have c46 := H.1
        refine Ek.chk 2 (fun n => rfl) c46 ?_
        replace H := H.2
        obtain ⟨p47, e48, H⟩ := H
        show Ek _ _ _ (va_rf (mP h p8 9) :: _) _ _
        rw [e48]
        have c49 := H.1
        refine Ek.chk 2 (fun n => rfl) c49 ?_
        replace H := H.2
        exact Ek.ret 1 (fun n => rfl) H
      replace H := H.2
      by_cases q50 : a2 = 11
      · replace H := H.1 q50
        rw [q50]
        refine Ek.go 1 (fun n => rfl) ?_
        have c51 := H.1
        refine Ek.chk 2 (fun n => rfl) c51 ?_
        replace H := H.2
        obtain ⟨p52, e53, H⟩ := H
        show Ek _ _ _ (va_rf (mP h p8 9) :: _) _ _
        rw [e53]
        have c54 := H.1
        refine Ek.chk 2 (fun n => rfl) c54 ?_
        replace H := H.2
        exact Ek.ret 1 (fun n => rfl) H
      replace H := H.2
      by_cases q55 : a2 = 12
      · replace H := H.1 q55
        rw [q55]
        refine Ek.go 1 (fun n => rfl) ?_
        have c56 := H.1
        refine Ek.chk 2 (fun n => rfl) c56 ?_
        replace H := H.2
        obtain ⟨p57, e58, H⟩ := H
        show Ek _ _ _ (va_rf (mP h p8 15) :: _) _ _
        rw [e58]
        have c59 := H.1
        refine Ek.chk 1 (fun n => rfl) c59 ?_
        replace H := H.2
        exact Ek.ret 1 (fun n => rfl) H
      replace H := H.2
      replace H := H q10
      replace H := H q12
      replace H := H q14
      replace H := H q16
      replace H := H q21
      replace H := H q26
      replace H := H q31
      replace H := H q36
      replace H := H q38
      replace H := H q40
      replace H := H q45
      replace H := H q50
      replace H := H q55
      have hs : a2 < 0 ∨ 13 ≤ (a2).toNatClampNeg := mSwOut (by decide) (fun j hj => match j, hj with
        | 0, _ => q10
        | 1, _ => q12
        | 2, _ => q14
        | 3, _ => q16
        | 4, _ => q21
        | 5, _ => q26
        | 6, _ => q31
        | 7, _ => q36
        | 8, _ => q38
        | 9, _ => q40
        | 10, _ => q45
        | 11, _ => q50
        | 12, _ => q55
        | j + 13, hj => absurd hj (by omega))
      refine Ek.br 1 (fun n => rfl) (fun _ => ?_) (fun hq => absurd hs hq)
      exact Ek.ret 2 (fun n => rfl) H

/-- RoundVotes.vote(IIII)I, from 0 -/
set_option maxRecDepth 4000 in
theorem T82 {a0 : Nat} {a1 : Int32} {a2 : Int32} {a3 : Int32} {a4 : Int32} {h : mH} {K : Option Value → mH → Prop} (H : (mTg h a0 = 11) ∧ ((a1 < 0 → (K (some (.int (-1))) h)) ∧ (¬ a1 < 0 → (∃ p2, mP h a0 0 = some p2 ∧ ((mTg h p2 = 9) ∧ (((mI h p2 0) ≤ a1 → (K (some (.int (-1))) h)) ∧ (¬ (mI h p2 0) ≤ a1 → ((a3 < 0 → (K (some (.int (-1))) h)) ∧ (¬ a3 < 0 → (((mI h p2 0) ≤ a3 → (K (some (.int (-1))) h)) ∧ (¬ (mI h p2 0) ≤ a3 → ((a2 < 0 → (K (some (.int (-1))) h)) ∧ (¬ a2 < 0 → (((30 : Int32) ≤ a2 → (K (some (.int (-1))) h)) ∧ (¬ (30 : Int32) ≤ a2 → ((a4 < 0 → (K (some (.int (-1))) h)) ∧ (¬ a4 < 0 → ((a4 ≤ 3 → (∃ p6, mP h a0 1 = some p6 ∧ (((mTg h p6 = 23 ∨ mTg h p6 = 24 ∨ mTg h p6 = 25) ∧ ¬ a1 < 0 ∧ (a1.toNatClampNeg) < mLn h p6) ∧ (∃ p9, mP h p6 (a1.toNatClampNeg) = some p9 ∧ ((mTg h p9 = 7) ∧ (∃ p12, mP h p9 12 = some p12 ∧ ((a4 = 3 → ((mTg h p12 = 1) ∧ (∃ p15, mP h p12 1 = some p15 ∧ (((mTg h p15 = 20 ∨ mTg h p15 = 30) ∧ ¬ ((((a2 * (mI h p12 0)) + a3) * 3) + 0) < 0 ∧ (((((a2 * (mI h p12 0)) + a3) * 3) + 0).toNatClampNeg) < mLn h p15) ∧ (((mI h p15 (((((a2 * (mI h p12 0)) + a3) * 3) + 0).toNatClampNeg)) = (-2) → (K (some (.int (-9))) h)) ∧ (¬ (mI h p15 (((((a2 * (mI h p12 0)) + a3) * 3) + 0).toNatClampNeg)) = (-2) → (∃ p18, mP h p12 2 = some p18 ∧ (((mTg h p18 = 20 ∨ mTg h p18 = 30) ∧ ¬ a2 < 0 ∧ (a2.toNatClampNeg) < mLn h p18) ∧ (K (some (.int (mI h p18 (a2.toNatClampNeg)))) h))))))))) ∧ (¬ a4 = 3 → ((mTg h p12 = 1) ∧ (∃ p22, mP h p12 1 = some p22 ∧ (((mTg h p22 = 20 ∨ mTg h p22 = 30) ∧ ¬ ((((a2 * (mI h p12 0)) + a3) * 3) + a4) < 0 ∧ (((((a2 * (mI h p12 0)) + a3) * 3) + a4).toNatClampNeg) < mLn h p22) ∧ (K (some (.int (mI h p22 (((((a2 * (mI h p12 0)) + a3) * 3) + a4).toNatClampNeg)))) h)))))))))))) ∧ (¬ a4 ≤ 3 → (K (some (.int (-1))) h)))))))))))))))))))) : Ek 82 0 [some (.ref a0), some (.int a1), some (.int a2), some (.int a3), some (.int a4), none] [] h K := by
  have c1 := H.1
  refine Ek.callT 2 (fun n => rfl) c1 ?_
  replace H := H.2
  refine Ek.br 2 (fun n => rfl) (fun hc => ?_) (fun hc => ?_)
  · replace H := H.1 hc
    refine Ek.ret 2 (fun n => rfl) ?_
    exact Ek.ret 3 (fun n => rfl) H
  · replace H := H.2 hc
    refine Ek.chk 3 (fun n => rfl) c1 ?_
    obtain ⟨p2, e3, H⟩ := H
    show Ek _ _ _ (va_rf (mP h a0 0) :: _) _ _
    rw [e3]
    have c4 := H.1
    refine Ek.chk 1 (fun n => rfl) c4 ?_
    replace H := H.2
    refine Ek.br 1 (fun n => rfl) (fun hc => ?_) (fun hc => ?_)
    · replace H := H.1 hc
      refine Ek.ret 2 (fun n => rfl) ?_
      exact Ek.ret 3 (fun n => rfl) H
    · replace H := H.2 hc
      refine Ek.ret 3 (fun n => rfl) ?_
      refine Ek.callT 3 (fun n => rfl) c1 ?_
      refine Ek.br 2 (fun n => rfl) (fun hc => ?_) (fun hc => ?_)
      · replace H := H.1 hc
        refine Ek.ret 2 (fun n => rfl) ?_
        exact Ek.ret 3 (fun n => rfl) H
      · replace H := H.2 hc
        refine Ek.chk 3 (fun n => rfl) c1 ?_
        show Ek _ _ _ (va_rf (mP h a0 0) :: _) _ _
        rw [e3]
        refine Ek.chk 1 (fun n => rfl) c4 ?_
        refine Ek.br 1 (fun n => rfl) (fun hc => ?_) (fun hc => ?_)
        · replace H := H.1 hc
          refine Ek.ret 2 (fun n => rfl) ?_
          exact Ek.ret 3 (fun n => rfl) H
        · replace H := H.2 hc
          refine Ek.ret 3 (fun n => rfl) ?_
          refine Ek.br 3 (fun n => rfl) (fun hc => ?_) (fun hc => ?_)
          · replace H := H.1 hc
            exact Ek.ret 2 (fun n => rfl) H
          · replace H := H.2 hc
            refine Ek.br 3 (fun n => rfl) (fun hc => ?_) (fun hc => ?_)
            · replace H := H.1 hc
              exact Ek.ret 2 (fun n => rfl) H
            · replace H := H.2 hc
              refine Ek.br 2 (fun n => rfl) (fun hc => ?_) (fun hc => ?_)
              · replace H := H.1 hc
                exact Ek.ret 2 (fun n => rfl) H
              · replace H := H.2 hc
                refine Ek.br 3 (fun n => rfl) (fun hc => ?_) (fun hc => ?_)
                · replace H := H.1 hc
                  refine Ek.chk 2 (fun n => rfl) c1 ?_
                  obtain ⟨p6, e7, H⟩ := H
                  show Ek _ _ _ (va_rf (mP h a0 1) :: _) _ _
                  rw [e7]
                  have c8 := H.1
                  refine Ek.chk 2 (fun n => rfl) c8 ?_
                  replace H := H.2
                  obtain ⟨p9, e10, H⟩ := H
                  show Ek _ _ _ (va_rf (mP h p6 (a1.toNatClampNeg)) :: _) _ _
                  rw [e10]
                  have c11 := H.1
                  refine Ek.chk 1 (fun n => rfl) c11 ?_
                  replace H := H.2
                  obtain ⟨p12, e13, H⟩ := H
                  show Ek _ _ _ (va_rf (mP h p9 12) :: _) _ _
                  rw [e13]
                  refine Ek.br 4 (fun n => rfl) (fun hc => ?_) (fun hc => ?_)
                  · replace H := H.1 hc
                    have c14 := H.1
                    refine Ek.callT 4 (fun n => rfl) c14 ?_
                    replace H := H.2
                    refine Ek.chk 2 (fun n => rfl) c14 ?_
                    obtain ⟨p15, e16, H⟩ := H
                    show Ek _ _ _ (va_rf (mP h p12 1) :: _) _ _
                    rw [e16]
                    refine Ek.chk 3 (fun n => rfl) c14 ?_
                    have c17 := H.1
                    refine Ek.chk 8 (fun n => rfl) c17 ?_
                    replace H := H.2
                    refine Ek.br 2 (fun n => rfl) (fun hc => ?_) (fun hc => ?_)
                    · replace H := H.1 hc
                      refine Ek.ret 2 (fun n => rfl) ?_
                      exact Ek.ret 3 (fun n => rfl) H
                    · replace H := H.2 hc
                      refine Ek.ret 3 (fun n => rfl) ?_
                      refine Ek.callT 3 (fun n => rfl) c14 ?_
                      refine Ek.chk 2 (fun n => rfl) c14 ?_
                      obtain ⟨p18, e19, H⟩ := H
                      show Ek _ _ _ (va_rf (mP h p12 2) :: _) _ _
                      rw [e19]
                      have c20 := H.1
                      refine Ek.chk 2 (fun n => rfl) c20 ?_
                      replace H := H.2
                      refine Ek.ret 1 (fun n => rfl) ?_
                      exact Ek.ret 2 (fun n => rfl) H
                  · replace H := H.2 hc
                    have c21 := H.1
                    refine Ek.callT 4 (fun n => rfl) c21 ?_
                    replace H := H.2
                    refine Ek.chk 2 (fun n => rfl) c21 ?_
                    obtain ⟨p22, e23, H⟩ := H
                    show Ek _ _ _ (va_rf (mP h p12 1) :: _) _ _
                    rw [e23]
                    refine Ek.chk 3 (fun n => rfl) c21 ?_
                    have c24 := H.1
                    refine Ek.chk 8 (fun n => rfl) c24 ?_
                    replace H := H.2
                    refine Ek.ret 1 (fun n => rfl) ?_
                    exact Ek.ret 1 (fun n => rfl) H
                · replace H := H.2 hc
                  exact Ek.ret 2 (fun n => rfl) H

/-- RoundVotes.decided(III)I, from 0 -/
set_option maxRecDepth 4000 in
theorem T83 {a0 : Nat} {a1 : Int32} {a2 : Int32} {a3 : Int32} {h : mH} {K : Option Value → mH → Prop} (H : (mTg h a0 = 11) ∧ ((a1 < 0 → (K (some (.int (-1))) h)) ∧ (¬ a1 < 0 → (∃ p2, mP h a0 0 = some p2 ∧ ((mTg h p2 = 9) ∧ (((mI h p2 0) ≤ a1 → (K (some (.int (-1))) h)) ∧ (¬ (mI h p2 0) ≤ a1 → ((a2 < 1 → (K (some (.int (-1))) h)) ∧ (¬ a2 < 1 → (((40 : Int32) < a2 → (K (some (.int (-1))) h)) ∧ (¬ (40 : Int32) < a2 → ((a3 < 0 → (K (some (.int (-1))) h)) ∧ (¬ a3 < 0 → ((a3 ≤ 3 → (∃ p5, mP h a0 1 = some p5 ∧ (((mTg h p5 = 23 ∨ mTg h p5 = 24 ∨ mTg h p5 = 25) ∧ ¬ a1 < 0 ∧ (a1.toNatClampNeg) < mLn h p5) ∧ (∃ p8, mP h p5 (a1.toNatClampNeg) = some p8 ∧ ((mTg h p8 = 7) ∧ (∃ p11, mP h p8 11 = some p11 ∧ ((mTg h p11 = 3) ∧ (∃ p14, mP h p11 0 = some p14 ∧ (((mTg h p14 = 20 ∨ mTg h p14 = 30) ∧ ¬ a2 < 0 ∧ (a2.toNatClampNeg) < mLn h p14) ∧ (((mI h p14 (a2.toNatClampNeg)) = 0 → (K (some (.int (-2))) h)) ∧ (¬ (mI h p14 (a2.toNatClampNeg)) = 0 → ((a3 = 0 → (K (some (.int (mI h p14 (a2.toNatClampNeg)))) h)) ∧ (a3 = 1 → (∃ p20, mP h p11 1 = some p20 ∧ (((mTg h p20 = 20 ∨ mTg h p20 = 30) ∧ ¬ a2 < 0 ∧ (a2.toNatClampNeg) < mLn h p20) ∧ (K (some (.int (mI h p20 (a2.toNatClampNeg)))) h)))) ∧ (a3 = 2 → (∃ p24, mP h p11 2 = some p24 ∧ (((mTg h p24 = 20 ∨ mTg h p24 = 30) ∧ ¬ a2 < 0 ∧ (a2.toNatClampNeg) < mLn h p24) ∧ (K (some (.int (mI h p24 (a2.toNatClampNeg)))) h)))) ∧ (¬ a3 = 0 → ((¬ a3 = 1 → ((¬ a3 = 2 → (∃ p28, mP h p11 2 = some p28 ∧ (((mTg h p28 = 20 ∨ mTg h p28 = 30) ∧ ¬ a2 < 0 ∧ (a2.toNatClampNeg) < mLn h p28) ∧ (Ek 30 0 [some (.ref p2), some (.int (mI h p28 (a2.toNatClampNeg))), some (.int a2), none, none] [] h (fun r h31 => ∃ x32 : Int32, r = some (.int x32) ∧ (K (some (.int x32)) h31)))))))))))))))))))))) ∧ (¬ a3 ≤ 3 → (K (some (.int (-1))) h)))))))))))))))) : Ek 83 0 [some (.ref a0), some (.int a1), some (.int a2), some (.int a3), none] [] h K := by
  have c1 := H.1
  refine Ek.callT 2 (fun n => rfl) c1 ?_
  replace H := H.2
  refine Ek.br 2 (fun n => rfl) (fun hc => ?_) (fun hc => ?_)
  · replace H := H.1 hc
    refine Ek.ret 2 (fun n => rfl) ?_
    exact Ek.ret 3 (fun n => rfl) H
  · replace H := H.2 hc
    refine Ek.chk 3 (fun n => rfl) c1 ?_
    obtain ⟨p2, e3, H⟩ := H
    show Ek _ _ _ (va_rf (mP h a0 0) :: _) _ _
    rw [e3]
    have c4 := H.1
    refine Ek.chk 1 (fun n => rfl) c4 ?_
    replace H := H.2
    refine Ek.br 1 (fun n => rfl) (fun hc => ?_) (fun hc => ?_)
    · replace H := H.1 hc
      refine Ek.ret 2 (fun n => rfl) ?_
      exact Ek.ret 3 (fun n => rfl) H
    · replace H := H.2 hc
      refine Ek.ret 3 (fun n => rfl) ?_
      refine Ek.call 2 (fun n => rfl) ?_
      refine Ek.br 3 (fun n => rfl) (fun hc => ?_) (fun hc => ?_)
      · replace H := H.1 hc
        refine Ek.ret 2 (fun n => rfl) ?_
        exact Ek.ret 3 (fun n => rfl) H
      · replace H := H.2 hc
        refine Ek.br 3 (fun n => rfl) (fun hc => ?_) (fun hc => ?_)
        · replace H := H.1 hc
          refine Ek.ret 2 (fun n => rfl) ?_
          exact Ek.ret 3 (fun n => rfl) H
        · replace H := H.2 hc
          refine Ek.ret 3 (fun n => rfl) ?_
          refine Ek.br 3 (fun n => rfl) (fun hc => ?_) (fun hc => ?_)
          · replace H := H.1 hc
            exact Ek.ret 2 (fun n => rfl) H
          · replace H := H.2 hc
            refine Ek.br 3 (fun n => rfl) (fun hc => ?_) (fun hc => ?_)
            · replace H := H.1 hc
              refine Ek.chk 2 (fun n => rfl) c1 ?_
              obtain ⟨p5, e6, H⟩ := H
              show Ek _ _ _ (va_rf (mP h a0 1) :: _) _ _
              rw [e6]
              have c7 := H.1
              refine Ek.chk 2 (fun n => rfl) c7 ?_
              replace H := H.2
              obtain ⟨p8, e9, H⟩ := H
              show Ek _ _ _ (va_rf (mP h p5 (a1.toNatClampNeg)) :: _) _ _
              rw [e9]
              have c10 := H.1
              refine Ek.chk 1 (fun n => rfl) c10 ?_
              replace H := H.2
              obtain ⟨p11, e12, H⟩ := H
              show Ek _ _ _ (va_rf (mP h p8 11) :: _) _ _
              rw [e12]
              have c13 := H.1
              refine Ek.callT 3 (fun n => rfl) c13 ?_
              replace H := H.2
              refine Ek.chk 2 (fun n => rfl) c13 ?_
              obtain ⟨p14, e15, H⟩ := H
              show Ek _ _ _ (va_rf (mP h p11 0) :: _) _ _
              rw [e15]
              have c16 := H.1
              refine Ek.chk 2 (fun n => rfl) c16 ?_
              replace H := H.2
              refine Ek.br 1 (fun n => rfl) (fun hc => ?_) (fun hc => ?_)
              · replace H := H.1 hc
                refine Ek.ret 2 (fun n => rfl) ?_
                exact Ek.ret 3 (fun n => rfl) H
              · replace H := H.2 hc
                refine Ek.ret 3 (fun n => rfl) ?_
                refine Ek.go 2 (fun n => rfl) ?_
                by_cases q17 : a3 = 0
                · replace H := H.1 q17
                  rw [q17]
                  refine Ek.go 1 (fun n => rfl) ?_
                  refine Ek.chk 2 (fun n => rfl) c13 ?_
                  show Ek _ _ _ (va_rf (mP h p11 0) :: _) _ _
                  rw [e15]
                  refine Ek.chk 2 (fun n => rfl) c16 ?_
                  exact Ek.ret 1 (fun n => rfl) H
                replace H := H.2
                by_cases q19 : a3 = 1
                · replace H := H.1 q19
                  rw [q19]
                  refine Ek.go 1 (fun n => rfl) ?_
                  refine Ek.chk 2 (fun n => rfl) c13 ?_
                  obtain ⟨p20, e21, H⟩ := H
                  show Ek _ _ _ (va_rf (mP h p11 1) :: _) _ _
                  rw [e21]
                  have c22 := H.1
                  refine Ek.chk 2 (fun n => rfl) c22 ?_
                  replace H := H.2
                  exact Ek.ret 1 (fun n => rfl) H
                replace H := H.2
                by_cases q23 : a3 = 2
                · replace H := H.1 q23
                  rw [q23]
                  refine Ek.go 1 (fun n => rfl) ?_
                  refine Ek.chk 2 (fun n => rfl) c13 ?_
                  obtain ⟨p24, e25, H⟩ := H
                  show Ek _ _ _ (va_rf (mP h p11 2) :: _) _ _
                  rw [e25]
                  have c26 := H.1
                  refine Ek.chk 2 (fun n => rfl) c26 ?_
                  replace H := H.2
                  exact Ek.ret 1 (fun n => rfl) H
                replace H := H.2
                replace H := H q17
                replace H := H q19
                replace H := H q23
                have hs : a3 < 0 ∨ 3 ≤ (a3).toNatClampNeg := mSwOut (by decide) (fun j hj => match j, hj with
                  | 0, _ => q17
                  | 1, _ => q19
                  | 2, _ => q23
                  | j + 3, hj => absurd hj (by omega))
                refine Ek.br 1 (fun n => rfl) (fun _ => ?_) (fun hq => absurd hs hq)
                refine Ek.chk 2 (fun n => rfl) c1 ?_
                show Ek _ _ _ (va_rf (mP h a0 0) :: _) _ _
                rw [e3]
                refine Ek.chk 2 (fun n => rfl) c13 ?_
                obtain ⟨p28, e29, H⟩ := H
                show Ek _ _ _ (va_rf (mP h p11 2) :: _) _ _
                rw [e29]
                have c30 := H.1
                refine Ek.chk 2 (fun n => rfl) c30 ?_
                replace H := H.2
                refine Ek.callT 1 (fun n => rfl) c4 ?_
                refine Ek.mono H ?_
                rintro _ h31 ⟨x32, rfl, H⟩
                exact Ek.ret 1 (fun n => rfl) H
            · replace H := H.2 hc
              exact Ek.ret 2 (fun n => rfl) H

/-- RoundVotes.isHeight(I)Z, from 0 -/
set_option maxRecDepth 4000 in
theorem T84 {a1 : Int32} {h : mH} {K : Option Value → mH → Prop} (H : (a1 < 1 → (K (some (.int 0)) h)) ∧ (¬ a1 < 1 → (((40 : Int32) < a1 → (K (some (.int 0)) h)) ∧ (¬ (40 : Int32) < a1 → (K (some (.int 1)) h))))) : Ek 84 0 [some (.int a1)] [] h K := by
  refine Ek.br 3 (fun n => rfl) (fun hc => ?_) (fun hc => ?_)
  · replace H := H.1 hc
    exact Ek.ret 2 (fun n => rfl) H
  · replace H := H.2 hc
    refine Ek.br 3 (fun n => rfl) (fun hc => ?_) (fun hc => ?_)
    · replace H := H.1 hc
      exact Ek.ret 2 (fun n => rfl) H
    · replace H := H.2 hc
      exact Ek.ret 3 (fun n => rfl) H

/-- RoundVotes.unlike(I)I, from 0 -/
set_option maxRecDepth 4000 in
theorem T85 {a0 : Nat} {a1 : Int32} {h : mH} {K : Option Value → mH → Prop} (H : (a1 < 1 → (K (some (.int (-1))) h)) ∧ (¬ a1 < 1 → (((40 : Int32) < a1 → (K (some (.int (-1))) h)) ∧ (¬ (40 : Int32) < a1 → (Ek 85 13 [some (.ref a0), some (.int a1), some (.int 0), some (.int 0), none] [] h K))))) : Ek 85 0 [some (.ref a0), some (.int a1), none, none, none] [] h K := by
  refine Ek.call 1 (fun n => rfl) ?_
  refine Ek.br 3 (fun n => rfl) (fun hc => ?_) (fun hc => ?_)
  · replace H := H.1 hc
    refine Ek.ret 2 (fun n => rfl) ?_
    exact Ek.ret 3 (fun n => rfl) H
  · replace H := H.2 hc
    refine Ek.br 3 (fun n => rfl) (fun hc => ?_) (fun hc => ?_)
    · replace H := H.1 hc
      refine Ek.ret 2 (fun n => rfl) ?_
      exact Ek.ret 3 (fun n => rfl) H
    · replace H := H.2 hc
      refine Ek.ret 3 (fun n => rfl) ?_
      exact Ek.go 5 (fun n => rfl) H

/-- RoundVotes.unlike(I)I, from 13 -/
set_option maxRecDepth 4000 in
theorem T85_13 {v0 : Nat} {v1 : Int32} {v2 : Int32} {v3 : Int32} {h : mH} {K : Option Value → mH → Prop} (H : (mTg h v0 = 11) ∧ (∃ p2, mP h v0 0 = some p2 ∧ ((mTg h p2 = 9) ∧ (((mI h p2 0) ≤ v3 → (K (some (.int 0)) h)) ∧ (¬ (mI h p2 0) ≤ v3 → (∃ p5, mP h v0 1 = some p5 ∧ (((mTg h p5 = 23 ∨ mTg h p5 = 24 ∨ mTg h p5 = 25) ∧ ¬ v3 < 0 ∧ (v3.toNatClampNeg) < mLn h p5) ∧ (∃ p8, mP h p5 (v3.toNatClampNeg) = some p8 ∧ ((mTg h p8 = 7) ∧ (∃ p11, mP h p8 11 = some p11 ∧ ((mTg h p11 = 3) ∧ (∃ p14, mP h p11 0 = some p14 ∧ (((mTg h p14 = 20 ∨ mTg h p14 = 30) ∧ ¬ v1 < 0 ∧ (v1.toNatClampNeg) < mLn h p14) ∧ (((mI h p14 (v1.toNatClampNeg)) = 0 → (((mI h p14 (v1.toNatClampNeg)) = 0 → (Ek 85 13 [some (.ref v0), some (.int v1), some (.int v2), some (.int (v3 + 1)), some (.int (mI h p14 (v1.toNatClampNeg)))] [] h K)) ∧ (¬ (mI h p14 (v1.toNatClampNeg)) = 0 → (Ek 85 13 [some (.ref v0), some (.int v1), some (.int (mI h p14 (v1.toNatClampNeg))), some (.int (v3 + 1)), some (.int (mI h p14 (v1.toNatClampNeg)))] [] h K)))) ∧ (¬ (mI h p14 (v1.toNatClampNeg)) = 0 → ((v2 = 0 → (((mI h p14 (v1.toNatClampNeg)) = 0 → (Ek 85 13 [some (.ref v0), some (.int v1), some (.int v2), some (.int (v3 + 1)), some (.int (mI h p14 (v1.toNatClampNeg)))] [] h K)) ∧ (¬ (mI h p14 (v1.toNatClampNeg)) = 0 → (Ek 85 13 [some (.ref v0), some (.int v1), some (.int (mI h p14 (v1.toNatClampNeg))), some (.int (v3 + 1)), some (.int (mI h p14 (v1.toNatClampNeg)))] [] h K)))) ∧ (¬ v2 = 0 → (((mI h p14 (v1.toNatClampNeg)) = v2 → (((mI h p14 (v1.toNatClampNeg)) = 0 → (Ek 85 13 [some (.ref v0), some (.int v1), some (.int v2), some (.int (v3 + 1)), some (.int (mI h p14 (v1.toNatClampNeg)))] [] h K)) ∧ (¬ (mI h p14 (v1.toNatClampNeg)) = 0 → (Ek 85 13 [some (.ref v0), some (.int v1), some (.int (mI h p14 (v1.toNatClampNeg))), some (.int (v3 + 1)), some (.int (mI h p14 (v1.toNatClampNeg)))] [] h K)))) ∧ (¬ (mI h p14 (v1.toNatClampNeg)) = v2 → (K (some (.int 1)) h)))))))))))))))))))) : Ek 85 13 [some (.ref v0), some (.int v1), some (.int v2), some (.int v3), none] [] h K := by
  have c1 := H.1
  refine Ek.chk 3 (fun n => rfl) c1 ?_
  replace H := H.2
  obtain ⟨p2, e3, H⟩ := H
  show Ek _ _ _ (va_rf (mP h v0 0) :: _) _ _
  rw [e3]
  have c4 := H.1
  refine Ek.chk 1 (fun n => rfl) c4 ?_
  replace H := H.2
  refine Ek.br 1 (fun n => rfl) (fun hc => ?_) (fun hc => ?_)
  · replace H := H.1 hc
    exact Ek.ret 2 (fun n => rfl) H
  · replace H := H.2 hc
    refine Ek.chk 2 (fun n => rfl) c1 ?_
    obtain ⟨p5, e6, H⟩ := H
    show Ek _ _ _ (va_rf (mP h v0 1) :: _) _ _
    rw [e6]
    have c7 := H.1
    refine Ek.chk 2 (fun n => rfl) c7 ?_
    replace H := H.2
    obtain ⟨p8, e9, H⟩ := H
    show Ek _ _ _ (va_rf (mP h p5 (v3.toNatClampNeg)) :: _) _ _
    rw [e9]
    have c10 := H.1
    refine Ek.chk 1 (fun n => rfl) c10 ?_
    replace H := H.2
    obtain ⟨p11, e12, H⟩ := H
    show Ek _ _ _ (va_rf (mP h p8 11) :: _) _ _
    rw [e12]
    have c13 := H.1
    refine Ek.chk 1 (fun n => rfl) c13 ?_
    replace H := H.2
    obtain ⟨p14, e15, H⟩ := H
    show Ek _ _ _ (va_rf (mP h p11 0) :: _) _ _
    rw [e15]
    have c16 := H.1
    refine Ek.chk 2 (fun n => rfl) c16 ?_
    replace H := H.2
    refine Ek.br 3 (fun n => rfl) (fun hc => ?_) (fun hc => ?_)
    · replace H := H.1 hc
      refine Ek.br 2 (fun n => rfl) (fun hc => ?_) (fun hc => ?_)
      · replace H := H.1 hc
        exact Ek.go 2 (fun n => rfl) H
      · replace H := H.2 hc
        exact Ek.go 4 (fun n => rfl) H
    · replace H := H.2 hc
      refine Ek.br 2 (fun n => rfl) (fun hc => ?_) (fun hc => ?_)
      · replace H := H.1 hc
        refine Ek.br 2 (fun n => rfl) (fun hc => ?_) (fun hc => ?_)
        · replace H := H.1 hc
          exact Ek.go 2 (fun n => rfl) H
        · replace H := H.2 hc
          exact Ek.go 4 (fun n => rfl) H
      · replace H := H.2 hc
        refine Ek.br 3 (fun n => rfl) (fun hc => ?_) (fun hc => ?_)
        · replace H := H.1 hc
          refine Ek.br 2 (fun n => rfl) (fun hc => ?_) (fun hc => ?_)
          · replace H := H.1 hc
            exact Ek.go 2 (fun n => rfl) H
          · replace H := H.2 hc
            exact Ek.go 4 (fun n => rfl) H
        · replace H := H.2 hc
          exact Ek.ret 2 (fun n => rfl) H

/-- RoundVotes.evidence(II)I, from 0 -/
set_option maxRecDepth 4000 in
theorem T86 {a0 : Nat} {a1 : Int32} {a2 : Int32} {h : mH} {K : Option Value → mH → Prop} (H : (a1 = (-1) → ((a2 = 0 → ((mTg h a0 = 11) ∧ (∃ p2, mP h a0 4 = some p2 ∧ ((mTg h p2 = 4) ∧ (K (some (.int (mI h p2 1))) h))))) ∧ (¬ a2 = 0 → ((a1 < 0 → (K (some (.int (-1))) h)) ∧ (¬ a1 < 0 → ((mTg h a0 = 11) ∧ (∃ p6, mP h a0 4 = some p6 ∧ ((mTg h p6 = 4) ∧ (((mI h p6 1) ≤ a1 → (K (some (.int (-1))) h)) ∧ (¬ (mI h p6 1) ≤ a1 → ((a2 < 0 → (K (some (.int (-1))) h)) ∧ (¬ a2 < 0 → ((a2 < 6 → (∃ p10, mP h p6 0 = some p10 ∧ (((mTg h p10 = 20 ∨ mTg h p10 = 30) ∧ ¬ ((a1 * 6) + a2) < 0 ∧ (((a1 * 6) + a2).toNatClampNeg) < mLn h p10) ∧ (K (some (.int (mI h p10 (((a1 * 6) + a2).toNatClampNeg)))) h)))) ∧ (¬ a2 < 6 → (K (some (.int (-1))) h))))))))))))))) ∧ (¬ a1 = (-1) → ((a1 < 0 → (K (some (.int (-1))) h)) ∧ (¬ a1 < 0 → ((mTg h a0 = 11) ∧ (∃ p14, mP h a0 4 = some p14 ∧ ((mTg h p14 = 4) ∧ (((mI h p14 1) ≤ a1 → (K (some (.int (-1))) h)) ∧ (¬ (mI h p14 1) ≤ a1 → ((a2 < 0 → (K (some (.int (-1))) h)) ∧ (¬ a2 < 0 → ((a2 < 6 → (∃ p18, mP h p14 0 = some p18 ∧ (((mTg h p18 = 20 ∨ mTg h p18 = 30) ∧ ¬ ((a1 * 6) + a2) < 0 ∧ (((a1 * 6) + a2).toNatClampNeg) < mLn h p18) ∧ (K (some (.int (mI h p18 (((a1 * 6) + a2).toNatClampNeg)))) h)))) ∧ (¬ a2 < 6 → (K (some (.int (-1))) h)))))))))))))) : Ek 86 0 [some (.ref a0), some (.int a1), some (.int a2)] [] h K := by
  refine Ek.br 3 (fun n => rfl) (fun hc => ?_) (fun hc => ?_)
  · replace H := H.1 hc
    refine Ek.br 2 (fun n => rfl) (fun hc => ?_) (fun hc => ?_)
    · replace H := H.1 hc
      have c1 := H.1
      refine Ek.chk 2 (fun n => rfl) c1 ?_
      replace H := H.2
      obtain ⟨p2, e3, H⟩ := H
      show Ek _ _ _ (va_rf (mP h a0 4) :: _) _ _
      rw [e3]
      have c4 := H.1
      refine Ek.chk 1 (fun n => rfl) c4 ?_
      replace H := H.2
      exact Ek.ret 1 (fun n => rfl) H
    · replace H := H.2 hc
      refine Ek.br 2 (fun n => rfl) (fun hc => ?_) (fun hc => ?_)
      · replace H := H.1 hc
        exact Ek.ret 2 (fun n => rfl) H
      · replace H := H.2 hc
        have c5 := H.1
        refine Ek.chk 3 (fun n => rfl) c5 ?_
        replace H := H.2
        obtain ⟨p6, e7, H⟩ := H
        show Ek _ _ _ (va_rf (mP h a0 4) :: _) _ _
        rw [e7]
        have c8 := H.1
        refine Ek.chk 1 (fun n => rfl) c8 ?_
        replace H := H.2
        refine Ek.br 1 (fun n => rfl) (fun hc => ?_) (fun hc => ?_)
        · replace H := H.1 hc
          exact Ek.ret 2 (fun n => rfl) H
        · replace H := H.2 hc
          refine Ek.br 2 (fun n => rfl) (fun hc => ?_) (fun hc => ?_)
          · replace H := H.1 hc
            exact Ek.ret 2 (fun n => rfl) H
          · replace H := H.2 hc
            refine Ek.br 3 (fun n => rfl) (fun hc => ?_) (fun hc => ?_)
            · replace H := H.1 hc
              refine Ek.chk 2 (fun n => rfl) c5 ?_
              show Ek _ _ _ (va_rf (mP h a0 4) :: _) _ _
              rw [e7]
              refine Ek.callT 2 (fun n => rfl) c8 ?_
              refine Ek.chk 2 (fun n => rfl) c8 ?_
              obtain ⟨p10, e11, H⟩ := H
              show Ek _ _ _ (va_rf (mP h p6 0) :: _) _ _
              rw [e11]
              have c12 := H.1
              refine Ek.chk 6 (fun n => rfl) c12 ?_
              replace H := H.2
              refine Ek.ret 1 (fun n => rfl) ?_
              exact Ek.ret 1 (fun n => rfl) H
            · replace H := H.2 hc
              exact Ek.ret 2 (fun n => rfl) H
  · replace H := H.2 hc
    refine Ek.br 2 (fun n => rfl) (fun hc => ?_) (fun hc => ?_)
    · replace H := H.1 hc
      exact Ek.ret 2 (fun n => rfl) H
    · replace H := H.2 hc
      have c13 := H.1
      refine Ek.chk 3 (fun n => rfl) c13 ?_
      replace H := H.2
      obtain ⟨p14, e15, H⟩ := H
      show Ek _ _ _ (va_rf (mP h a0 4) :: _) _ _
      rw [e15]
      have c16 := H.1
      refine Ek.chk 1 (fun n => rfl) c16 ?_
      replace H := H.2
      refine Ek.br 1 (fun n => rfl) (fun hc => ?_) (fun hc => ?_)
      · replace H := H.1 hc
        exact Ek.ret 2 (fun n => rfl) H
      · replace H := H.2 hc
        refine Ek.br 2 (fun n => rfl) (fun hc => ?_) (fun hc => ?_)
        · replace H := H.1 hc
          exact Ek.ret 2 (fun n => rfl) H
        · replace H := H.2 hc
          refine Ek.br 3 (fun n => rfl) (fun hc => ?_) (fun hc => ?_)
          · replace H := H.1 hc
            refine Ek.chk 2 (fun n => rfl) c13 ?_
            show Ek _ _ _ (va_rf (mP h a0 4) :: _) _ _
            rw [e15]
            refine Ek.callT 2 (fun n => rfl) c16 ?_
            refine Ek.chk 2 (fun n => rfl) c16 ?_
            obtain ⟨p18, e19, H⟩ := H
            show Ek _ _ _ (va_rf (mP h p14 0) :: _) _ _
            rw [e19]
            have c20 := H.1
            refine Ek.chk 6 (fun n => rfl) c20 ?_
            replace H := H.2
            refine Ek.ret 1 (fun n => rfl) ?_
            exact Ek.ret 1 (fun n => rfl) H
          · replace H := H.2 hc
            exact Ek.ret 2 (fun n => rfl) H

/-- RoundVotes.against(I)I, from 0 -/
set_option maxRecDepth 4000 in
theorem T87 {a0 : Nat} {a1 : Int32} {h : mH} {K : Option Value → mH → Prop} (H : (mTg h a0 = 11) ∧ ((a1 < 0 → (K (some (.int (-1))) h)) ∧ (¬ a1 < 0 → (∃ p2, mP h a0 0 = some p2 ∧ ((mTg h p2 = 9) ∧ (((mI h p2 0) ≤ a1 → (K (some (.int (-1))) h)) ∧ (¬ (mI h p2 0) ≤ a1 → (∃ p5, mP h a0 1 = some p5 ∧ (((mTg h p5 = 23 ∨ mTg h p5 = 24 ∨ mTg h p5 = 25) ∧ ¬ a1 < 0 ∧ (a1.toNatClampNeg) < mLn h p5) ∧ (∃ p8, mP h p5 (a1.toNatClampNeg) = some p8 ∧ ((mTg h p8 = 7) ∧ (∃ p11, mP h p8 15 = some p11 ∧ ((mTg h p11 = 8) ∧ (K (some (.int (mI h p11 1))) h)))))))))))))) : Ek 87 0 [some (.ref a0), some (.int a1)] [] h K := by
  have c1 := H.1
  refine Ek.callT 2 (fun n => rfl) c1 ?_
  replace H := H.2
  refine Ek.br 2 (fun n => rfl) (fun hc => ?_) (fun hc => ?_)
  · replace H := H.1 hc
    refine Ek.ret 2 (fun n => rfl) ?_
    exact Ek.ret 3 (fun n => rfl) H
  · replace H := H.2 hc
    refine Ek.chk 3 (fun n => rfl) c1 ?_
    obtain ⟨p2, e3, H⟩ := H
    show Ek _ _ _ (va_rf (mP h a0 0) :: _) _ _
    rw [e3]
    have c4 := H.1
    refine Ek.chk 1 (fun n => rfl) c4 ?_
    replace H := H.2
    refine Ek.br 1 (fun n => rfl) (fun hc => ?_) (fun hc => ?_)
    · replace H := H.1 hc
      refine Ek.ret 2 (fun n => rfl) ?_
      exact Ek.ret 3 (fun n => rfl) H
    · replace H := H.2 hc
      refine Ek.ret 3 (fun n => rfl) ?_
      refine Ek.chk 3 (fun n => rfl) c1 ?_
      obtain ⟨p5, e6, H⟩ := H
      show Ek _ _ _ (va_rf (mP h a0 1) :: _) _ _
      rw [e6]
      have c7 := H.1
      refine Ek.chk 2 (fun n => rfl) c7 ?_
      replace H := H.2
      obtain ⟨p8, e9, H⟩ := H
      show Ek _ _ _ (va_rf (mP h p5 (a1.toNatClampNeg)) :: _) _ _
      rw [e9]
      have c10 := H.1
      refine Ek.chk 1 (fun n => rfl) c10 ?_
      replace H := H.2
      obtain ⟨p11, e12, H⟩ := H
      show Ek _ _ _ (va_rf (mP h p8 15) :: _) _ _
      rw [e12]
      have c13 := H.1
      refine Ek.chk 1 (fun n => rfl) c13 ?_
      replace H := H.2
      exact Ek.ret 2 (fun n => rfl) H

/-- RoundVotes.count(I)I, from 0 -/
set_option maxRecDepth 4000 in
theorem T88 {a0 : Nat} {a1 : Int32} {h : mH} {K : Option Value → mH → Prop} (H : (a1 = 0 → ((mTg h a0 = 11) ∧ (K (some (.int (mI h a0 5))) h))) ∧ (a1 = 1 → ((mTg h a0 = 11) ∧ (K (some (.int (mI h a0 6))) h))) ∧ (a1 = 2 → ((mTg h a0 = 11) ∧ (K (some (.int (mI h a0 7))) h))) ∧ (a1 = 3 → ((mTg h a0 = 11) ∧ (K (some (.int (mI h a0 8))) h))) ∧ (a1 = 4 → ((mTg h a0 = 11) ∧ (∃ p11, mP h a0 2 = some p11 ∧ ((mTg h p11 = 5) ∧ (K (some (.int (mI h p11 2))) h))))) ∧ (a1 = 5 → ((mTg h a0 = 11) ∧ (Ek 64 0 [some (.ref a0), none, none] [] h (fun r h16 => ∃ x17 : Int32, r = some (.int x17) ∧ (K (some (.int (x17 - 1))) h16))))) ∧ (a1 = 6 → ((mTg h a0 = 11) ∧ (∃ p20, mP h a0 0 = some p20 ∧ ((mTg h p20 = 9) ∧ (K (some (.int (mI h p20 0))) h))))) ∧ (a1 = 7 → ((mTg h a0 = 11) ∧ (∃ p25, mP h a0 0 = some p25 ∧ ((mTg h p25 = 9) ∧ (∃ p28, mP h p25 3 = some p28 ∧ (((mTg h p28 = 20 ∨ mTg h p28 = 30) ∧ ¬ (1 : Int32) < 0 ∧ ((1 : Int32).toNatClampNeg) < mLn h p28) ∧ (K (some (.int (mI h p28 ((1 : Int32).toNatClampNeg)))) h))))))) ∧ (a1 = 8 → ((mTg h a0 = 11) ∧ (K (some (.int (if (0 : Int32) < ((mI h a0 11) - (mI h a0 5)) then ((mI h a0 11) - (mI h a0 5)) else 0))) h))) ∧ (¬ a1 = 0 → ((¬ a1 = 1 → ((¬ a1 = 2 → ((¬ a1 = 3 → ((¬ a1 = 4 → ((¬ a1 = 5 → ((¬ a1 = 6 → ((¬ a1 = 7 → ((¬ a1 = 8 → (K (some (.int (-1))) h))))))))))))))))))) : Ek 88 0 [some (.ref a0), some (.int a1)] [] h K := by
  refine Ek.go 1 (fun n => rfl) ?_
  by_cases q1 : a1 = 0
  · replace H := H.1 q1
    rw [q1]
    refine Ek.go 1 (fun n => rfl) ?_
    have c2 := H.1
    refine Ek.chk 2 (fun n => rfl) c2 ?_
    replace H := H.2
    exact Ek.ret 1 (fun n => rfl) H
  replace H := H.2
  by_cases q3 : a1 = 1
  · replace H := H.1 q3
    rw [q3]
    refine Ek.go 1 (fun n => rfl) ?_
    have c4 := H.1
    refine Ek.chk 2 (fun n => rfl) c4 ?_
    replace H := H.2
    exact Ek.ret 1 (fun n => rfl) H
  replace H := H.2
  by_cases q5 : a1 = 2
  · replace H := H.1 q5
    rw [q5]
    refine Ek.go 1 (fun n => rfl) ?_
    have c6 := H.1
    refine Ek.chk 2 (fun n => rfl) c6 ?_
    replace H := H.2
    exact Ek.ret 1 (fun n => rfl) H
  replace H := H.2
  by_cases q7 : a1 = 3
  · replace H := H.1 q7
    rw [q7]
    refine Ek.go 1 (fun n => rfl) ?_
    have c8 := H.1
    refine Ek.chk 2 (fun n => rfl) c8 ?_
    replace H := H.2
    exact Ek.ret 1 (fun n => rfl) H
  replace H := H.2
  by_cases q9 : a1 = 4
  · replace H := H.1 q9
    rw [q9]
    refine Ek.go 1 (fun n => rfl) ?_
    have c10 := H.1
    refine Ek.chk 2 (fun n => rfl) c10 ?_
    replace H := H.2
    obtain ⟨p11, e12, H⟩ := H
    show Ek _ _ _ (va_rf (mP h a0 2) :: _) _ _
    rw [e12]
    have c13 := H.1
    refine Ek.chk 1 (fun n => rfl) c13 ?_
    replace H := H.2
    exact Ek.ret 1 (fun n => rfl) H
  replace H := H.2
  by_cases q14 : a1 = 5
  · replace H := H.1 q14
    rw [q14]
    refine Ek.go 1 (fun n => rfl) ?_
    have c15 := H.1
    refine Ek.callT 1 (fun n => rfl) c15 ?_
    replace H := H.2
    refine Ek.callT 1 (fun n => rfl) c15 ?_
    refine Ek.mono H ?_
    rintro _ h16 ⟨x17, rfl, H⟩
    refine Ek.ret 3 (fun n => rfl) ?_
    exact Ek.ret 1 (fun n => rfl) H
  replace H := H.2
  by_cases q18 : a1 = 6
  · replace H := H.1 q18
    rw [q18]
    refine Ek.go 1 (fun n => rfl) ?_
    have c19 := H.1
    refine Ek.chk 2 (fun n => rfl) c19 ?_
    replace H := H.2
    obtain ⟨p20, e21, H⟩ := H
    show Ek _ _ _ (va_rf (mP h a0 0) :: _) _ _
    rw [e21]
    have c22 := H.1
    refine Ek.chk 1 (fun n => rfl) c22 ?_
    replace H := H.2
    exact Ek.ret 1 (fun n => rfl) H
  replace H := H.2
  by_cases q23 : a1 = 7
  · replace H := H.1 q23
    rw [q23]
    refine Ek.go 1 (fun n => rfl) ?_
    have c24 := H.1
    refine Ek.chk 2 (fun n => rfl) c24 ?_
    replace H := H.2
    obtain ⟨p25, e26, H⟩ := H
    show Ek _ _ _ (va_rf (mP h a0 0) :: _) _ _
    rw [e26]
    have c27 := H.1
    refine Ek.chk 1 (fun n => rfl) c27 ?_
    replace H := H.2
    obtain ⟨p28, e29, H⟩ := H
    show Ek _ _ _ (va_rf (mP h p25 3) :: _) _ _
    rw [e29]
    have c30 := H.1
    refine Ek.chk 2 (fun n => rfl) c30 ?_
    replace H := H.2
    exact Ek.ret 1 (fun n => rfl) H
  replace H := H.2
  by_cases q31 : a1 = 8
  · replace H := H.1 q31
    rw [q31]
    refine Ek.go 1 (fun n => rfl) ?_
    have c32 := H.1
    refine Ek.chk 3 (fun n => rfl) c32 ?_
    replace H := H.2
    refine Ek.chk 2 (fun n => rfl) c32 ?_
    exact Ek.ret 3 (fun n => rfl) H
  replace H := H.2
  replace H := H q1
  replace H := H q3
  replace H := H q5
  replace H := H q7
  replace H := H q9
  replace H := H q14
  replace H := H q18
  replace H := H q23
  replace H := H q31
  have hs : a1 < 0 ∨ 9 ≤ (a1).toNatClampNeg := mSwOut (by decide) (fun j hj => match j, hj with
    | 0, _ => q1
    | 1, _ => q3
    | 2, _ => q5
    | 3, _ => q7
    | 4, _ => q9
    | 5, _ => q14
    | 6, _ => q18
    | 7, _ => q23
    | 8, _ => q31
    | j + 9, hj => absurd hj (by omega))
  refine Ek.br 1 (fun n => rfl) (fun _ => ?_) (fun hq => absurd hs hq)
  exact Ek.ret 2 (fun n => rfl) H

/-- RoundVotes.greatestDecided()I, from 0 -/
set_option maxRecDepth 4000 in
theorem T89 {a0 : Nat} {h : mH} {K : Option Value → mH → Prop} (H : (mTg h a0 = 11) ∧ (Ek 64 0 [some (.ref a0), none, none] [] h (fun r h2 => ∃ x3 : Int32, r = some (.int x3) ∧ (K (some (.int (x3 - 1))) h2)))) : Ek 89 0 [some (.ref a0)] [] h K := by
  have c1 := H.1
  refine Ek.callT 1 (fun n => rfl) c1 ?_
  replace H := H.2
  refine Ek.mono H ?_
  rintro _ h2 ⟨x3, rfl, H⟩
  exact Ek.ret 3 (fun n => rfl) H

/-- RoundVotes.weightOf(II)I, from 0 -/
set_option maxRecDepth 4000 in
theorem T90 {a0 : Nat} {a1 : Int32} {a2 : Int32} {h : mH} {K : Option Value → mH → Prop} (H : (a2 < 1 → (K (some (.int (-1))) h)) ∧ (¬ a2 < 1 → (((40 : Int32) < a2 → (K (some (.int (-1))) h)) ∧ (¬ (40 : Int32) < a2 → ((a1 = (-1) → ((a1 = (-1) → ((mTg h a0 = 11) ∧ (∃ p2, mP h a0 0 = some p2 ∧ ((mTg h p2 = 9) ∧ (∃ p5, mP h p2 3 = some p5 ∧ (((mTg h p5 = 20 ∨ mTg h p5 = 30) ∧ ¬ a2 < 0 ∧ (a2.toNatClampNeg) < mLn h p5) ∧ (K (some (.int (mI h p5 (a2.toNatClampNeg)))) h))))))) ∧ (¬ a1 = (-1) → ((mTg h a0 = 11) ∧ (∃ p9, mP h a0 0 = some p9 ∧ ((mTg h p9 = 9) ∧ (∃ p12, mP h p9 2 = some p12 ∧ (((mTg h p12 = 23 ∨ mTg h p12 = 24 ∨ mTg h p12 = 25) ∧ ¬ a2 < 0 ∧ (a2.toNatClampNeg) < mLn h p12) ∧ (∃ p15, mP h p12 (a2.toNatClampNeg) = some p15 ∧ (((mTg h p15 = 20 ∨ mTg h p15 = 30) ∧ ¬ a1 < 0 ∧ (a1.toNatClampNeg) < mLn h p15) ∧ (K (some (.int (mI h p15 (a1.toNatClampNeg)))) h))))))))))) ∧ (¬ a1 = (-1) → ((mTg h a0 = 11) ∧ ((a1 < 0 → (K (some (.int (-1))) h)) ∧ (¬ a1 < 0 → (∃ p19, mP h a0 0 = some p19 ∧ ((mTg h p19 = 9) ∧ (((mI h p19 0) ≤ a1 → (K (some (.int (-1))) h)) ∧ (¬ (mI h p19 0) ≤ a1 → ((a1 = (-1) → (∃ p23, mP h p19 3 = some p23 ∧ (((mTg h p23 = 20 ∨ mTg h p23 = 30) ∧ ¬ a2 < 0 ∧ (a2.toNatClampNeg) < mLn h p23) ∧ (K (some (.int (mI h p23 (a2.toNatClampNeg)))) h)))) ∧ (¬ a1 = (-1) → (∃ p27, mP h p19 2 = some p27 ∧ (((mTg h p27 = 23 ∨ mTg h p27 = 24 ∨ mTg h p27 = 25) ∧ ¬ a2 < 0 ∧ (a2.toNatClampNeg) < mLn h p27) ∧ (∃ p30, mP h p27 (a2.toNatClampNeg) = some p30 ∧ (((mTg h p30 = 20 ∨ mTg h p30 = 30) ∧ ¬ a1 < 0 ∧ (a1.toNatClampNeg) < mLn h p30) ∧ (K (some (.int (mI h p30 (a1.toNatClampNeg)))) h)))))))))))))))))))) : Ek 90 0 [some (.ref a0), some (.int a1), some (.int a2)] [] h K := by
  refine Ek.call 1 (fun n => rfl) ?_
  refine Ek.br 3 (fun n => rfl) (fun hc => ?_) (fun hc => ?_)
  · replace H := H.1 hc
    refine Ek.ret 2 (fun n => rfl) ?_
    exact Ek.ret 3 (fun n => rfl) H
  · replace H := H.2 hc
    refine Ek.br 3 (fun n => rfl) (fun hc => ?_) (fun hc => ?_)
    · replace H := H.1 hc
      refine Ek.ret 2 (fun n => rfl) ?_
      exact Ek.ret 3 (fun n => rfl) H
    · replace H := H.2 hc
      refine Ek.ret 3 (fun n => rfl) ?_
      refine Ek.br 4 (fun n => rfl) (fun hc => ?_) (fun hc => ?_)
      · replace H := H.1 hc
        refine Ek.br 3 (fun n => rfl) (fun hc => ?_) (fun hc => ?_)
        · replace H := H.1 hc
          have c1 := H.1
          refine Ek.chk 2 (fun n => rfl) c1 ?_
          replace H := H.2
          obtain ⟨p2, e3, H⟩ := H
          show Ek _ _ _ (va_rf (mP h a0 0) :: _) _ _
          rw [e3]
          have c4 := H.1
          refine Ek.chk 1 (fun n => rfl) c4 ?_
          replace H := H.2
          obtain ⟨p5, e6, H⟩ := H
          show Ek _ _ _ (va_rf (mP h p2 3) :: _) _ _
          rw [e6]
          have c7 := H.1
          refine Ek.chk 2 (fun n => rfl) c7 ?_
          replace H := H.2
          exact Ek.ret 2 (fun n => rfl) H
        · replace H := H.2 hc
          have c8 := H.1
          refine Ek.chk 2 (fun n => rfl) c8 ?_
          replace H := H.2
          obtain ⟨p9, e10, H⟩ := H
          show Ek _ _ _ (va_rf (mP h a0 0) :: _) _ _
          rw [e10]
          have c11 := H.1
          refine Ek.chk 1 (fun n => rfl) c11 ?_
          replace H := H.2
          obtain ⟨p12, e13, H⟩ := H
          show Ek _ _ _ (va_rf (mP h p9 2) :: _) _ _
          rw [e13]
          have c14 := H.1
          refine Ek.chk 2 (fun n => rfl) c14 ?_
          replace H := H.2
          obtain ⟨p15, e16, H⟩ := H
          show Ek _ _ _ (va_rf (mP h p12 (a2.toNatClampNeg)) :: _) _ _
          rw [e16]
          have c17 := H.1
          refine Ek.chk 2 (fun n => rfl) c17 ?_
          replace H := H.2
          exact Ek.ret 1 (fun n => rfl) H
      · replace H := H.2 hc
        have c18 := H.1
        refine Ek.callT 2 (fun n => rfl) c18 ?_
        replace H := H.2
        refine Ek.br 2 (fun n => rfl) (fun hc => ?_) (fun hc => ?_)
        · replace H := H.1 hc
          refine Ek.ret 2 (fun n => rfl) ?_
          exact Ek.ret 3 (fun n => rfl) H
        · replace H := H.2 hc
          refine Ek.chk 3 (fun n => rfl) c18 ?_
          obtain ⟨p19, e20, H⟩ := H
          show Ek _ _ _ (va_rf (mP h a0 0) :: _) _ _
          rw [e20]
          have c21 := H.1
          refine Ek.chk 1 (fun n => rfl) c21 ?_
          replace H := H.2
          refine Ek.br 1 (fun n => rfl) (fun hc => ?_) (fun hc => ?_)
          · replace H := H.1 hc
            refine Ek.ret 2 (fun n => rfl) ?_
            exact Ek.ret 3 (fun n => rfl) H
          · replace H := H.2 hc
            refine Ek.ret 3 (fun n => rfl) ?_
            refine Ek.br 4 (fun n => rfl) (fun hc => ?_) (fun hc => ?_)
            · replace H := H.1 hc
              refine Ek.chk 2 (fun n => rfl) c18 ?_
              show Ek _ _ _ (va_rf (mP h a0 0) :: _) _ _
              rw [e20]
              refine Ek.chk 1 (fun n => rfl) c21 ?_
              obtain ⟨p23, e24, H⟩ := H
              show Ek _ _ _ (va_rf (mP h p19 3) :: _) _ _
              rw [e24]
              have c25 := H.1
              refine Ek.chk 2 (fun n => rfl) c25 ?_
              replace H := H.2
              exact Ek.ret 2 (fun n => rfl) H
            · replace H := H.2 hc
              refine Ek.chk 2 (fun n => rfl) c18 ?_
              show Ek _ _ _ (va_rf (mP h a0 0) :: _) _ _
              rw [e20]
              refine Ek.chk 1 (fun n => rfl) c21 ?_
              obtain ⟨p27, e28, H⟩ := H
              show Ek _ _ _ (va_rf (mP h p19 2) :: _) _ _
              rw [e28]
              have c29 := H.1
              refine Ek.chk 2 (fun n => rfl) c29 ?_
              replace H := H.2
              obtain ⟨p30, e31, H⟩ := H
              show Ek _ _ _ (va_rf (mP h p27 (a2.toNatClampNeg)) :: _) _ _
              rw [e31]
              have c32 := H.1
              refine Ek.chk 2 (fun n => rfl) c32 ?_
              replace H := H.2
              exact Ek.ret 1 (fun n => rfl) H

