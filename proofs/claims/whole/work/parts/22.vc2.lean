/-! ===== what a run needs, method by method (36 to 60) ===== -/
/-- RoundVotes$Node.<init>(ILRoundVotes$Setup;)V, from 0 -/
set_option maxRecDepth 4000 in
theorem T36 {a0 : Nat} {a1 : Int32} {a2 : Nat} {h : mH} {K : Option Value → mH → Prop} (H : (mTg h a0 = 7) ∧ (∀ h1, h1 = wI h a0 2 1 → (∀ h3, h3 = wI h1 a0 4 0 → (∀ h4, h4 = wN h3 2 2 → ((mTg h4 ((mTop h3)) = 2) ∧ (∀ h5, h5 = wI h4 ((mTop h3)) 0 0 → (∀ h7, h7 = wI h5 ((mTop h3)) 1 (-1) → ((mTg h4 a0 = 7) ∧ (∀ h8, h8 = wP h7 a0 5 (some ((mTop h3))) → (∀ h10, h10 = wN h8 2 2 → ((mTg h10 ((mTop h8)) = 2) ∧ (∀ h11, h11 = wI h10 ((mTop h8)) 0 0 → (∀ h13, h13 = wI h11 ((mTop h8)) 1 (-1) → ((mTg h10 a0 = 7) ∧ (∀ h14, h14 = wP h13 a0 6 (some ((mTop h8))) → ((¬ (3 : Int32) < 0 ∧ ((3 : Int32).toNatClampNeg) ≤ 1000000) ∧ (∀ h16, h16 = wN h14 20 ((3 : Int32).toNatClampNeg) → ((mTg h16 a0 = 7) ∧ (∀ h18, h18 = wP h16 a0 9 (some ((mTop h14))) → (∀ h20, h20 = wN h18 21 ((3 : Int32).toNatClampNeg) → ((mTg h20 a0 = 7) ∧ (∀ h21, h21 = wP h20 a0 10 (some ((mTop h18))) → (∀ h23, h23 = wN h21 3 3 → ((¬ (41 : Int32) < 0 ∧ ((41 : Int32).toNatClampNeg) ≤ 1000000) ∧ (∀ h24, h24 = wN h23 20 ((41 : Int32).toNatClampNeg) → ((mTg h24 ((mTop h21)) = 3) ∧ (∀ h26, h26 = wP h24 ((mTop h21)) 0 (some ((mTop h23))) → (∀ h28, h28 = wN h26 20 ((41 : Int32).toNatClampNeg) → ((mTg h28 ((mTop h21)) = 3) ∧ (∀ h29, h29 = wP h28 ((mTop h21)) 1 (some ((mTop h26))) → (∀ h31, h31 = wN h29 20 ((41 : Int32).toNatClampNeg) → ((mTg h31 ((mTop h21)) = 3) ∧ (∀ h32, h32 = wP h31 ((mTop h21)) 2 (some ((mTop h29))) → ((mTg h31 a0 = 7) ∧ (∀ h34, h34 = wP h32 a0 11 (some ((mTop h21))) → (∀ h36, h36 = wN h34 1 4 → (Ek 7 0 [some (.ref (mTop h34)), some (.int 1)] [] h36 (fun r h37 => r = none ∧ ((mTg h37 a0 = 7) ∧ (∀ h38, h38 = wP h37 a0 14 (some ((mTop h34))) → (∀ h40, h40 = wN h38 8 3 → (Ek 34 0 [some (.ref (mTop h38))] [] h40 (fun r h41 => r = none ∧ ((mTg h41 a0 = 7) ∧ (∀ h42, h42 = wP h41 a0 15 (some ((mTop h38))) → (∀ h44, h44 = wN h42 6 9 → ((mTg h44 a0 = 7) ∧ (∀ h45, h45 = wP h44 a0 16 (some ((mTop h42))) → (∀ h47, h47 = wI h45 a0 0 a1 → (∀ h48, h48 = wP h47 a0 1 (some a2) → (∀ h49, h49 = wN h48 1 4 → ((mTg h49 a2 = 9) ∧ (Ek 7 0 [some (.ref (mTop h48)), some (.int (mI h49 a2 0))] [] h49 (fun r h51 => r = none ∧ ((mTg h51 a0 = 7) ∧ (∀ h52, h52 = wP h51 a0 12 (some ((mTop h48))) → (∀ h54, h54 = wN h52 1 4 → ((mTg h54 a2 = 9) ∧ (Ek 7 0 [some (.ref (mTop h52)), some (.int (mI h54 a2 0))] [] h54 (fun r h56 => r = none ∧ ((mTg h56 a0 = 7) ∧ (∀ h57, h57 = wP h56 a0 13 (some ((mTop h52))) → (K none h57))))))))))))))))))))))))))))))))))))))))))))))))))))))))))))))) : Ek 36 0 [some (.ref a0), some (.int a1), some (.ref a2)] [] h K := by
  have c2 := H.1
  refine Ek.chk 5 (fun n => rfl) c2 ?_
  replace H := H.2
  let h1 : mH := wI h a0 2 1
  replace H := H h1 rfl
  show Ek _ _ _ _ h1 _
  refine Ek.chk 3 (fun n => rfl) c2 ?_
  let h3 : mH := wI h1 a0 4 0
  replace H := H h3 rfl
  show Ek _ _ _ _ h3 _
  refine Ek.go 2 (fun n => rfl) ?_
  let h4 : mH := wN h3 2 2
  replace H := H h4 rfl
  show Ek _ _ _ _ h4 _
  refine Ek.call 1 (fun n => rfl) ?_
  have c6 := H.1
  refine Ek.chk 5 (fun n => rfl) c6 ?_
  replace H := H.2
  let h5 : mH := wI h4 ((mTop h3)) 0 0
  replace H := H h5 rfl
  show Ek _ _ _ _ h5 _
  refine Ek.chk 3 (fun n => rfl) c6 ?_
  let h7 : mH := wI h5 ((mTop h3)) 1 (-1)
  replace H := H h7 rfl
  show Ek _ _ _ _ h7 _
  refine Ek.ret 1 (fun n => rfl) ?_
  have c9 := H.1
  refine Ek.chk 1 (fun n => rfl) c9 ?_
  replace H := H.2
  let h8 : mH := wP h7 a0 5 (some ((mTop h3)))
  replace H := H h8 rfl
  show Ek _ _ _ _ h8 _
  refine Ek.go 2 (fun n => rfl) ?_
  let h10 : mH := wN h8 2 2
  replace H := H h10 rfl
  show Ek _ _ _ _ h10 _
  refine Ek.call 1 (fun n => rfl) ?_
  have c12 := H.1
  refine Ek.chk 5 (fun n => rfl) c12 ?_
  replace H := H.2
  let h11 : mH := wI h10 ((mTop h8)) 0 0
  replace H := H h11 rfl
  show Ek _ _ _ _ h11 _
  refine Ek.chk 3 (fun n => rfl) c12 ?_
  let h13 : mH := wI h11 ((mTop h8)) 1 (-1)
  replace H := H h13 rfl
  show Ek _ _ _ _ h13 _
  refine Ek.ret 1 (fun n => rfl) ?_
  have c15 := H.1
  refine Ek.chk 1 (fun n => rfl) c15 ?_
  replace H := H.2
  let h14 : mH := wP h13 a0 6 (some ((mTop h8)))
  replace H := H h14 rfl
  show Ek _ _ _ _ h14 _
  have c17 := H.1
  refine Ek.chk 3 (fun n => rfl) c17 ?_
  replace H := H.2
  let h16 : mH := wN h14 20 ((3 : Int32).toNatClampNeg)
  replace H := H h16 rfl
  show Ek _ _ _ _ h16 _
  have c19 := H.1
  refine Ek.chk 1 (fun n => rfl) c19 ?_
  replace H := H.2
  let h18 : mH := wP h16 a0 9 (some ((mTop h14)))
  replace H := H h18 rfl
  show Ek _ _ _ _ h18 _
  refine Ek.chk 3 (fun n => rfl) c17 ?_
  let h20 : mH := wN h18 21 ((3 : Int32).toNatClampNeg)
  replace H := H h20 rfl
  show Ek _ _ _ _ h20 _
  have c22 := H.1
  refine Ek.chk 1 (fun n => rfl) c22 ?_
  replace H := H.2
  let h21 : mH := wP h20 a0 10 (some ((mTop h18)))
  replace H := H h21 rfl
  show Ek _ _ _ _ h21 _
  refine Ek.go 2 (fun n => rfl) ?_
  let h23 : mH := wN h21 3 3
  replace H := H h23 rfl
  show Ek _ _ _ _ h23 _
  refine Ek.call 1 (fun n => rfl) ?_
  have c25 := H.1
  refine Ek.chk 5 (fun n => rfl) c25 ?_
  replace H := H.2
  let h24 : mH := wN h23 20 ((41 : Int32).toNatClampNeg)
  replace H := H h24 rfl
  show Ek _ _ _ _ h24 _
  have c27 := H.1
  refine Ek.chk 1 (fun n => rfl) c27 ?_
  replace H := H.2
  let h26 : mH := wP h24 ((mTop h21)) 0 (some ((mTop h23)))
  replace H := H h26 rfl
  show Ek _ _ _ _ h26 _
  refine Ek.chk 3 (fun n => rfl) c25 ?_
  let h28 : mH := wN h26 20 ((41 : Int32).toNatClampNeg)
  replace H := H h28 rfl
  show Ek _ _ _ _ h28 _
  have c30 := H.1
  refine Ek.chk 1 (fun n => rfl) c30 ?_
  replace H := H.2
  let h29 : mH := wP h28 ((mTop h21)) 1 (some ((mTop h26)))
  replace H := H h29 rfl
  show Ek _ _ _ _ h29 _
  refine Ek.chk 3 (fun n => rfl) c25 ?_
  let h31 : mH := wN h29 20 ((41 : Int32).toNatClampNeg)
  replace H := H h31 rfl
  show Ek _ _ _ _ h31 _
  have c33 := H.1
  refine Ek.chk 1 (fun n => rfl) c33 ?_
  replace H := H.2
  let h32 : mH := wP h31 ((mTop h21)) 2 (some ((mTop h29)))
  replace H := H h32 rfl
  show Ek _ _ _ _ h32 _
  refine Ek.ret 1 (fun n => rfl) ?_
  have c35 := H.1
  refine Ek.chk 1 (fun n => rfl) c35 ?_
  replace H := H.2
  let h34 : mH := wP h32 a0 11 (some ((mTop h21)))
  replace H := H h34 rfl
  show Ek _ _ _ _ h34 _
  refine Ek.go 2 (fun n => rfl) ?_
  let h36 : mH := wN h34 1 4
  replace H := H h36 rfl
  show Ek _ _ _ _ h36 _
  refine Ek.call 2 (fun n => rfl) ?_
  refine Ek.mono H ?_
  rintro _ h37 ⟨rfl, H⟩
  have c39 := H.1
  refine Ek.chk 1 (fun n => rfl) c39 ?_
  replace H := H.2
  let h38 : mH := wP h37 a0 14 (some ((mTop h34)))
  replace H := H h38 rfl
  show Ek _ _ _ _ h38 _
  refine Ek.go 2 (fun n => rfl) ?_
  let h40 : mH := wN h38 8 3
  replace H := H h40 rfl
  show Ek _ _ _ _ h40 _
  refine Ek.call 1 (fun n => rfl) ?_
  refine Ek.mono H ?_
  rintro _ h41 ⟨rfl, H⟩
  have c43 := H.1
  refine Ek.chk 1 (fun n => rfl) c43 ?_
  replace H := H.2
  let h42 : mH := wP h41 a0 15 (some ((mTop h38)))
  replace H := H h42 rfl
  show Ek _ _ _ _ h42 _
  refine Ek.go 2 (fun n => rfl) ?_
  let h44 : mH := wN h42 6 9
  replace H := H h44 rfl
  show Ek _ _ _ _ h44 _
  refine Ek.call 1 (fun n => rfl) ?_
  refine Ek.ret 3 (fun n => rfl) ?_
  have c46 := H.1
  refine Ek.chk 1 (fun n => rfl) c46 ?_
  replace H := H.2
  let h45 : mH := wP h44 a0 16 (some ((mTop h42)))
  replace H := H h45 rfl
  show Ek _ _ _ _ h45 _
  refine Ek.chk 3 (fun n => rfl) c46 ?_
  let h47 : mH := wI h45 a0 0 a1
  replace H := H h47 rfl
  show Ek _ _ _ _ h47 _
  refine Ek.chk 3 (fun n => rfl) c46 ?_
  let h48 : mH := wP h47 a0 1 (some a2)
  replace H := H h48 rfl
  show Ek _ _ _ _ h48 _
  refine Ek.go 2 (fun n => rfl) ?_
  let h49 : mH := wN h48 1 4
  replace H := H h49 rfl
  show Ek _ _ _ _ h49 _
  have c50 := H.1
  refine Ek.chk 3 (fun n => rfl) c50 ?_
  replace H := H.2
  refine Ek.call 0 (fun n => rfl) ?_
  refine Ek.mono H ?_
  rintro _ h51 ⟨rfl, H⟩
  have c53 := H.1
  refine Ek.chk 1 (fun n => rfl) c53 ?_
  replace H := H.2
  let h52 : mH := wP h51 a0 12 (some ((mTop h48)))
  replace H := H h52 rfl
  show Ek _ _ _ _ h52 _
  refine Ek.go 2 (fun n => rfl) ?_
  let h54 : mH := wN h52 1 4
  replace H := H h54 rfl
  show Ek _ _ _ _ h54 _
  have c55 := H.1
  refine Ek.chk 3 (fun n => rfl) c55 ?_
  replace H := H.2
  refine Ek.call 0 (fun n => rfl) ?_
  refine Ek.mono H ?_
  rintro _ h56 ⟨rfl, H⟩
  have c58 := H.1
  refine Ek.chk 1 (fun n => rfl) c58 ?_
  replace H := H.2
  let h57 : mH := wP h56 a0 13 (some ((mTop h52)))
  replace H := H h57 rfl
  show Ek _ _ _ _ h57 _
  exact Ek.ret 1 (fun n => rfl) H

/-- RoundVotes$Node.isCut()Z, from 0 -/
set_option maxRecDepth 4000 in
theorem T37 {a0 : Nat} {h : mH} {K : Option Value → mH → Prop} (H : (mTg h a0 = 7) ∧ (((mI h a0 8) ≤ 0 → (K (some (.int 0)) h)) ∧ (¬ (mI h a0 8) ≤ 0 → (K (some (.int 1)) h)))) : Ek 37 0 [some (.ref a0)] [] h K := by
  have c1 := H.1
  refine Ek.chk 2 (fun n => rfl) c1 ?_
  replace H := H.2
  refine Ek.br 1 (fun n => rfl) (fun hc => ?_) (fun hc => ?_)
  · replace H := H.1 hc
    exact Ek.ret 2 (fun n => rfl) H
  · replace H := H.2 hc
    exact Ek.ret 3 (fun n => rfl) H

/-- RoundVotes$Node.begin(II)V, from 0 -/
set_option maxRecDepth 4000 in
theorem T38 {a0 : Nat} {a1 : Int32} {a2 : Int32} {h : mH} {K : Option Value → mH → Prop} (H : (a1 < 30 → ((mTg h a0 = 7) ∧ (∀ h1, h1 = wI h a0 3 a1 → (∀ h3, h3 = wI h1 a0 4 0 → (Ek 38 19 [some (.ref a0), some (.int a1), some (.int a2), some (.int 0)] [] h3 K))))) ∧ (¬ a1 < 30 → (K none h))) : Ek 38 0 [some (.ref a0), some (.int a1), some (.int a2), none] [] h K := by
  refine Ek.br 3 (fun n => rfl) (fun hc => ?_) (fun hc => ?_)
  · replace H := H.1 hc
    have c2 := H.1
    refine Ek.chk 3 (fun n => rfl) c2 ?_
    replace H := H.2
    let h1 : mH := wI h a0 3 a1
    replace H := H h1 rfl
    show Ek _ _ _ _ h1 _
    refine Ek.chk 3 (fun n => rfl) c2 ?_
    let h3 : mH := wI h1 a0 4 0
    replace H := H h3 rfl
    show Ek _ _ _ _ h3 _
    exact Ek.go 2 (fun n => rfl) H
  · replace H := H.2 hc
    exact Ek.ret 1 (fun n => rfl) H

/-- RoundVotes$Node.begin(II)V, from 19 -/
set_option maxRecDepth 4000 in
theorem T38_19 {v0 : Nat} {v1 : Int32} {v2 : Int32} {v3 : Int32} {h : mH} {K : Option Value → mH → Prop} (H : ((3 : Int32) ≤ v3 → (Ek 38 39 [some (.ref v0), some (.int v1), some (.int v2), some (.int 0)] [] h K)) ∧ (¬ (3 : Int32) ≤ v3 → ((mTg h v0 = 7) ∧ (∃ p2, mP h v0 9 = some p2 ∧ ((mTg h p2 = 20 ∧ ¬ v3 < 0 ∧ (v3.toNatClampNeg) < mLn h p2) ∧ (∀ h4, h4 = wI h p2 (v3.toNatClampNeg) 0 → (Ek 38 19 [some (.ref v0), some (.int v1), some (.int v2), some (.int (v3 + 1))] [] h4 K))))))) : Ek 38 19 [some (.ref v0), some (.int v1), some (.int v2), some (.int v3)] [] h K := by
  refine Ek.br 3 (fun n => rfl) (fun hc => ?_) (fun hc => ?_)
  · replace H := H.1 hc
    exact Ek.go 2 (fun n => rfl) H
  · replace H := H.2 hc
    have c1 := H.1
    refine Ek.chk 2 (fun n => rfl) c1 ?_
    replace H := H.2
    obtain ⟨p2, e3, H⟩ := H
    show Ek _ _ _ (va_rf (mP h v0 9) :: _) _ _
    rw [e3]
    have c5 := H.1
    refine Ek.chk 3 (fun n => rfl) c5 ?_
    replace H := H.2
    let h4 : mH := wI h p2 (v3.toNatClampNeg) 0
    replace H := H h4 rfl
    show Ek _ _ _ _ h4 _
    exact Ek.go 2 (fun n => rfl) H

/-- RoundVotes$Node.begin(II)V, from 39 -/
set_option maxRecDepth 4000 in
theorem T38_39 {v0 : Nat} {v1 : Int32} {v2 : Int32} {v3 : Int32} {h : mH} {K : Option Value → mH → Prop} (H : ((3 : Int32) ≤ v3 → ((mTg h v0 = 7) ∧ (((mI h v0 2) ≤ 40 → (∃ p2, mP h v0 9 = some p2 ∧ ((mTg h p2 = 20 ∧ ¬ (0 : Int32) < 0 ∧ ((0 : Int32).toNatClampNeg) < mLn h p2) ∧ (∀ h4, h4 = wI h p2 ((0 : Int32).toNatClampNeg) ((v2 + 4) + (mI h v0 3)) → (∃ p6, mP h v0 1 = some p6 ∧ ((mTg h p6 = 9) ∧ ((¬ (mI h4 p6 0) = 0) ∧ (((((mI h4 v0 2) + (mI h4 v0 3)) - ((mI h4 v0 2) + (mI h4 v0 3)) / (mI h4 p6 0) * (mI h4 p6 0)) = (mI h4 v0 0) → (∃ p10, mP h v0 6 = some p10 ∧ ((mTg h p10 = 2) ∧ (((mI h4 p10 0) = 0 → (Ek 40 0 [some (.ref v0), some (.int 0), some (.int (2 + (2 * (((((mI h4 p6 1) ^^^ (7919 * (mI h4 v0 0))) ^^^ (104729 * (mI h4 v0 2))) ^^^ (1299709 * (mI h4 v0 3))) &&& 1048575)))), some (.int (-1)), none, none] [] h4 (fun r h14 => r = none ∧ (K none h14)))) ∧ (¬ (mI h4 p10 0) = 0 → (Ek 40 0 [some (.ref v0), some (.int 0), some (.int (mI h4 p10 0)), some (.int (mI h4 p10 1)), none, none] [] h4 (fun r h17 => r = none ∧ (K none h17)))))))) ∧ (¬ (((mI h4 v0 2) + (mI h4 v0 3)) - ((mI h4 v0 2) + (mI h4 v0 3)) / (mI h4 p6 0) * (mI h4 p6 0)) = (mI h4 v0 0) → (K none h4)))))))))) ∧ (¬ (mI h v0 2) ≤ 40 → (K none h))))) ∧ (¬ (3 : Int32) ≤ v3 → ((mTg h v0 = 7) ∧ (∃ p19, mP h v0 10 = some p19 ∧ ((mTg h p19 = 21 ∧ ((0 : Int32) = 0 ∨ (0 : Int32) = 1) ∧ ¬ v3 < 0 ∧ (v3.toNatClampNeg) < mLn h p19) ∧ (∀ h21, h21 = wI h p19 (v3.toNatClampNeg) 0 → (Ek 38 39 [some (.ref v0), some (.int v1), some (.int v2), some (.int (v3 + 1))] [] h21 K))))))) : Ek 38 39 [some (.ref v0), some (.int v1), some (.int v2), some (.int v3)] [] h K := by
  refine Ek.br 3 (fun n => rfl) (fun hc => ?_) (fun hc => ?_)
  · replace H := H.1 hc
    have c1 := H.1
    refine Ek.callT 1 (fun n => rfl) c1 ?_
    replace H := H.2
    refine Ek.chk 2 (fun n => rfl) c1 ?_
    refine Ek.br 2 (fun n => rfl) (fun hc => ?_) (fun hc => ?_)
    · replace H := H.1 hc
      refine Ek.ret 2 (fun n => rfl) ?_
      refine Ek.chk 3 (fun n => rfl) c1 ?_
      obtain ⟨p2, e3, H⟩ := H
      show Ek _ _ _ (va_rf (mP h v0 9) :: _) _ _
      rw [e3]
      refine Ek.chk 6 (fun n => rfl) c1 ?_
      have c5 := H.1
      refine Ek.chk 2 (fun n => rfl) c5 ?_
      replace H := H.2
      let h4 : mH := wI h p2 ((0 : Int32).toNatClampNeg) ((v2 + 4) + (mI h v0 3))
      replace H := H h4 rfl
      show Ek _ _ _ _ h4 _
      refine Ek.chk 2 (fun n => rfl) c1 ?_
      obtain ⟨p6, e7, H⟩ := H
      show Ek _ _ _ (va_rf (mP h v0 1) :: _) _ _
      rw [e7]
      refine Ek.chk 2 (fun n => rfl) c1 ?_
      refine Ek.chk 2 (fun n => rfl) c1 ?_
      have c8 := H.1
      refine Ek.callT 0 (fun n => rfl) c8 ?_
      replace H := H.2
      refine Ek.chk 5 (fun n => rfl) c8 ?_
      have c9 := H.1
      refine Ek.nch 1 (fun n => rfl) c9 ?_
      replace H := H.2
      refine Ek.ret 1 (fun n => rfl) ?_
      refine Ek.chk 2 (fun n => rfl) c1 ?_
      refine Ek.br 1 (fun n => rfl) (fun hc => ?_) (fun hc => ?_)
      · replace H := H.1 hc
        refine Ek.chk 2 (fun n => rfl) c1 ?_
        obtain ⟨p10, e11, H⟩ := H
        show Ek _ _ _ (va_rf (mP h v0 6) :: _) _ _
        rw [e11]
        have c12 := H.1
        refine Ek.callT 0 (fun n => rfl) c12 ?_
        replace H := H.2
        refine Ek.chk 2 (fun n => rfl) c12 ?_
        refine Ek.br 1 (fun n => rfl) (fun hc => ?_) (fun hc => ?_)
        · replace H := H.1 hc
          refine Ek.ret 3 (fun n => rfl) ?_
          refine Ek.chk 5 (fun n => rfl) c1 ?_
          show Ek _ _ _ (va_rf (mP h v0 1) :: _) _ _
          rw [e7]
          refine Ek.chk 2 (fun n => rfl) c1 ?_
          refine Ek.chk 2 (fun n => rfl) c1 ?_
          refine Ek.chk 2 (fun n => rfl) c1 ?_
          refine Ek.callT 0 (fun n => rfl) c8 ?_
          refine Ek.chk 2 (fun n => rfl) c8 ?_
          refine Ek.ret 21 (fun n => rfl) ?_
          refine Ek.callT 1 (fun n => rfl) c1 ?_
          refine Ek.mono H ?_
          rintro _ h14 ⟨rfl, H⟩
          exact Ek.ret 2 (fun n => rfl) H
        · replace H := H.2 hc
          refine Ek.ret 2 (fun n => rfl) ?_
          refine Ek.chk 5 (fun n => rfl) c1 ?_
          show Ek _ _ _ (va_rf (mP h v0 6) :: _) _ _
          rw [e11]
          refine Ek.chk 1 (fun n => rfl) c12 ?_
          refine Ek.chk 2 (fun n => rfl) c1 ?_
          show Ek _ _ _ (va_rf (mP h v0 6) :: _) _ _
          rw [e11]
          refine Ek.chk 1 (fun n => rfl) c12 ?_
          refine Ek.callT 0 (fun n => rfl) c1 ?_
          refine Ek.mono H ?_
          rintro _ h17 ⟨rfl, H⟩
          exact Ek.ret 1 (fun n => rfl) H
      · replace H := H.2 hc
        exact Ek.ret 1 (fun n => rfl) H
    · replace H := H.2 hc
      refine Ek.ret 3 (fun n => rfl) ?_
      exact Ek.ret 2 (fun n => rfl) H
  · replace H := H.2 hc
    have c18 := H.1
    refine Ek.chk 2 (fun n => rfl) c18 ?_
    replace H := H.2
    obtain ⟨p19, e20, H⟩ := H
    show Ek _ _ _ (va_rf (mP h v0 10) :: _) _ _
    rw [e20]
    have c22 := H.1
    refine Ek.chk 3 (fun n => rfl) c22 ?_
    replace H := H.2
    let h21 : mH := wI h p19 (v3.toNatClampNeg) 0
    replace H := H h21 rfl
    show Ek _ _ _ _ h21 _
    exact Ek.go 2 (fun n => rfl) H

/-- RoundVotes$Node.standsStill()Z, from 0 -/
set_option maxRecDepth 4000 in
theorem T39 {a0 : Nat} {h : mH} {K : Option Value → mH → Prop} (H : (mTg h a0 = 7) ∧ (((mI h a0 2) ≤ 40 → (K (some (.int 0)) h)) ∧ (¬ (mI h a0 2) ≤ 40 → (K (some (.int 1)) h)))) : Ek 39 0 [some (.ref a0)] [] h K := by
  have c1 := H.1
  refine Ek.chk 2 (fun n => rfl) c1 ?_
  replace H := H.2
  refine Ek.br 2 (fun n => rfl) (fun hc => ?_) (fun hc => ?_)
  · replace H := H.1 hc
    exact Ek.ret 2 (fun n => rfl) H
  · replace H := H.2 hc
    exact Ek.ret 3 (fun n => rfl) H

/-- RoundVotes$Node.send(III)V, from 0 -/
set_option maxRecDepth 4000 in
theorem T40 {a0 : Nat} {a1 : Int32} {a2 : Int32} {a3 : Int32} {h : mH} {K : Option Value → mH → Prop} (H : (mTg h a0 = 7) ∧ (((mI h a0 7) = 5 → ((a1 = 0 → (((mI h a0 7) = 4 → (Ek 40 103 [some (.ref a0), some (.int a1), some (.int a2), some (.int a3), some (.int a2), some (.int a3)] [] h K)) ∧ (¬ (mI h a0 7) = 4 → (∃ p2, mP h a0 14 = some p2 ∧ ((mTg h p2 = 1) ∧ (∃ p5, mP h p2 1 = some p5 ∧ (((mTg h p5 = 20 ∨ mTg h p5 = 30) ∧ ¬ (((((mI h a0 3) * (mI h p2 0)) + 0) * 3) + a1) < 0 ∧ ((((((mI h a0 3) * (mI h p2 0)) + 0) * 3) + a1).toNatClampNeg) < mLn h p5) ∧ (((mI h p5 ((((((mI h a0 3) * (mI h p2 0)) + 0) * 3) + a1).toNatClampNeg)) = (-2) → (Ek 11 0 [some (.ref p2), some (.int (mI h a0 3)), some (.int 0), some (.int a1), some (.int a2), some (.int a3)] [] h (fun r h9 => r = none ∧ (Ek 40 103 [some (.ref a0), some (.int a1), some (.int a2), some (.int a3), some (.int a2), some (.int a3)] [] h9 K)))) ∧ (¬ (mI h p5 ((((((mI h a0 3) * (mI h p2 0)) + 0) * 3) + a1).toNatClampNeg)) = (-2) → ((a1 = 0 → (∃ p13, mP h p2 2 = some p13 ∧ (((mTg h p13 = 20 ∨ mTg h p13 = 30) ∧ ¬ (mI h a0 3) < 0 ∧ ((mI h a0 3).toNatClampNeg) < mLn h p13) ∧ (Ek 40 103 [some (.ref a0), some (.int a1), some (.int a2), some (.int a3), some (.int (mI h p5 ((((((mI h a0 3) * (mI h p2 0)) + 0) * 3) + a1).toNatClampNeg))), some (.int (mI h p13 ((mI h a0 3).toNatClampNeg)))] [] h K)))) ∧ (¬ a1 = 0 → (Ek 40 103 [some (.ref a0), some (.int a1), some (.int a2), some (.int a3), some (.int (mI h p5 ((((((mI h a0 3) * (mI h p2 0)) + 0) * 3) + a1).toNatClampNeg))), some (.int a3)] [] h K)))))))))))) ∧ (¬ a1 = 0 → (((mI h a0 7) = 4 → (Ek 40 103 [some (.ref a0), some (.int a1), some (.int a2), some (.int a3), some (.int 0), some (.int a3)] [] h K)) ∧ (¬ (mI h a0 7) = 4 → (∃ p16, mP h a0 14 = some p16 ∧ ((mTg h p16 = 1) ∧ (∃ p19, mP h p16 1 = some p19 ∧ (((mTg h p19 = 20 ∨ mTg h p19 = 30) ∧ ¬ (((((mI h a0 3) * (mI h p16 0)) + 0) * 3) + a1) < 0 ∧ ((((((mI h a0 3) * (mI h p16 0)) + 0) * 3) + a1).toNatClampNeg) < mLn h p19) ∧ (((mI h p19 ((((((mI h a0 3) * (mI h p16 0)) + 0) * 3) + a1).toNatClampNeg)) = (-2) → (Ek 11 0 [some (.ref p16), some (.int (mI h a0 3)), some (.int 0), some (.int a1), some (.int 0), some (.int a3)] [] h (fun r h23 => r = none ∧ (Ek 40 103 [some (.ref a0), some (.int a1), some (.int a2), some (.int a3), some (.int 0), some (.int a3)] [] h23 K)))) ∧ (¬ (mI h p19 ((((((mI h a0 3) * (mI h p16 0)) + 0) * 3) + a1).toNatClampNeg)) = (-2) → ((a1 = 0 → (∃ p27, mP h p16 2 = some p27 ∧ (((mTg h p27 = 20 ∨ mTg h p27 = 30) ∧ ¬ (mI h a0 3) < 0 ∧ ((mI h a0 3).toNatClampNeg) < mLn h p27) ∧ (Ek 40 103 [some (.ref a0), some (.int a1), some (.int a2), some (.int a3), some (.int (mI h p19 ((((((mI h a0 3) * (mI h p16 0)) + 0) * 3) + a1).toNatClampNeg))), some (.int (mI h p27 ((mI h a0 3).toNatClampNeg)))] [] h K)))) ∧ (¬ a1 = 0 → (Ek 40 103 [some (.ref a0), some (.int a1), some (.int a2), some (.int a3), some (.int (mI h p19 ((((((mI h a0 3) * (mI h p16 0)) + 0) * 3) + a1).toNatClampNeg))), some (.int a3)] [] h K)))))))))))))) ∧ (¬ (mI h a0 7) = 5 → (((mI h a0 7) = 4 → (Ek 40 103 [some (.ref a0), some (.int a1), some (.int a2), some (.int a3), some (.int a2), some (.int a3)] [] h K)) ∧ (¬ (mI h a0 7) = 4 → (∃ p30, mP h a0 14 = some p30 ∧ ((mTg h p30 = 1) ∧ (∃ p33, mP h p30 1 = some p33 ∧ (((mTg h p33 = 20 ∨ mTg h p33 = 30) ∧ ¬ (((((mI h a0 3) * (mI h p30 0)) + 0) * 3) + a1) < 0 ∧ ((((((mI h a0 3) * (mI h p30 0)) + 0) * 3) + a1).toNatClampNeg) < mLn h p33) ∧ (((mI h p33 ((((((mI h a0 3) * (mI h p30 0)) + 0) * 3) + a1).toNatClampNeg)) = (-2) → (Ek 11 0 [some (.ref p30), some (.int (mI h a0 3)), some (.int 0), some (.int a1), some (.int a2), some (.int a3)] [] h (fun r h37 => r = none ∧ (Ek 40 103 [some (.ref a0), some (.int a1), some (.int a2), some (.int a3), some (.int a2), some (.int a3)] [] h37 K)))) ∧ (¬ (mI h p33 ((((((mI h a0 3) * (mI h p30 0)) + 0) * 3) + a1).toNatClampNeg)) = (-2) → ((a1 = 0 → (∃ p41, mP h p30 2 = some p41 ∧ (((mTg h p41 = 20 ∨ mTg h p41 = 30) ∧ ¬ (mI h a0 3) < 0 ∧ ((mI h a0 3).toNatClampNeg) < mLn h p41) ∧ (Ek 40 103 [some (.ref a0), some (.int a1), some (.int a2), some (.int a3), some (.int (mI h p33 ((((((mI h a0 3) * (mI h p30 0)) + 0) * 3) + a1).toNatClampNeg))), some (.int (mI h p41 ((mI h a0 3).toNatClampNeg)))] [] h K)))) ∧ (¬ a1 = 0 → (Ek 40 103 [some (.ref a0), some (.int a1), some (.int a2), some (.int a3), some (.int (mI h p33 ((((((mI h a0 3) * (mI h p30 0)) + 0) * 3) + a1).toNatClampNeg))), some (.int a3)] [] h K)))))))))))))) : Ek 40 0 [some (.ref a0), some (.int a1), some (.int a2), some (.int a3), none, none] [] h K := by
  have c1 := H.1
  refine Ek.chk 2 (fun n => rfl) c1 ?_
  replace H := H.2
  refine Ek.br 2 (fun n => rfl) (fun hc => ?_) (fun hc => ?_)
  · replace H := H.1 hc
    refine Ek.br 2 (fun n => rfl) (fun hc => ?_) (fun hc => ?_)
    · replace H := H.1 hc
      refine Ek.chk 6 (fun n => rfl) c1 ?_
      refine Ek.br 2 (fun n => rfl) (fun hc => ?_) (fun hc => ?_)
      · replace H := H.1 hc
        exact H
      · replace H := H.2 hc
        refine Ek.chk 2 (fun n => rfl) c1 ?_
        obtain ⟨p2, e3, H⟩ := H
        show Ek _ _ _ (va_rf (mP h a0 14) :: _) _ _
        rw [e3]
        refine Ek.chk 2 (fun n => rfl) c1 ?_
        have c4 := H.1
        refine Ek.callT 2 (fun n => rfl) c4 ?_
        replace H := H.2
        refine Ek.chk 2 (fun n => rfl) c4 ?_
        obtain ⟨p5, e6, H⟩ := H
        show Ek _ _ _ (va_rf (mP h p2 1) :: _) _ _
        rw [e6]
        refine Ek.chk 3 (fun n => rfl) c4 ?_
        have c7 := H.1
        refine Ek.chk 8 (fun n => rfl) c7 ?_
        replace H := H.2
        refine Ek.br 2 (fun n => rfl) (fun hc => ?_) (fun hc => ?_)
        · replace H := H.1 hc
          refine Ek.ret 2 (fun n => rfl) ?_
          refine Ek.chk 3 (fun n => rfl) c1 ?_
          show Ek _ _ _ (va_rf (mP h a0 14) :: _) _ _
          rw [e3]
          refine Ek.chk 2 (fun n => rfl) c1 ?_
          refine Ek.callT 4 (fun n => rfl) c4 ?_
          refine Ek.mono H ?_
          rintro _ h9 ⟨rfl, H⟩
          exact H
        · replace H := H.2 hc
          refine Ek.ret 3 (fun n => rfl) ?_
          refine Ek.chk 3 (fun n => rfl) c1 ?_
          show Ek _ _ _ (va_rf (mP h a0 14) :: _) _ _
          rw [e3]
          refine Ek.chk 2 (fun n => rfl) c1 ?_
          refine Ek.callT 2 (fun n => rfl) c4 ?_
          refine Ek.chk 2 (fun n => rfl) c4 ?_
          show Ek _ _ _ (va_rf (mP h p2 1) :: _) _ _
          rw [e6]
          refine Ek.chk 3 (fun n => rfl) c4 ?_
          refine Ek.chk 8 (fun n => rfl) c7 ?_
          refine Ek.ret 1 (fun n => rfl) ?_
          refine Ek.br 3 (fun n => rfl) (fun hc => ?_) (fun hc => ?_)
          · replace H := H.1 hc
            refine Ek.chk 2 (fun n => rfl) c1 ?_
            show Ek _ _ _ (va_rf (mP h a0 14) :: _) _ _
            rw [e3]
            refine Ek.chk 2 (fun n => rfl) c1 ?_
            refine Ek.callT 0 (fun n => rfl) c4 ?_
            refine Ek.chk 2 (fun n => rfl) c4 ?_
            obtain ⟨p13, e14, H⟩ := H
            show Ek _ _ _ (va_rf (mP h p2 2) :: _) _ _
            rw [e14]
            have c15 := H.1
            refine Ek.chk 2 (fun n => rfl) c15 ?_
            replace H := H.2
            refine Ek.ret 1 (fun n => rfl) ?_
            exact Ek.go 3 (fun n => rfl) H
          · replace H := H.2 hc
            exact Ek.go 3 (fun n => rfl) H
    · replace H := H.2 hc
      refine Ek.chk 7 (fun n => rfl) c1 ?_
      refine Ek.br 2 (fun n => rfl) (fun hc => ?_) (fun hc => ?_)
      · replace H := H.1 hc
        exact H
      · replace H := H.2 hc
        refine Ek.chk 2 (fun n => rfl) c1 ?_
        obtain ⟨p16, e17, H⟩ := H
        show Ek _ _ _ (va_rf (mP h a0 14) :: _) _ _
        rw [e17]
        refine Ek.chk 2 (fun n => rfl) c1 ?_
        have c18 := H.1
        refine Ek.callT 2 (fun n => rfl) c18 ?_
        replace H := H.2
        refine Ek.chk 2 (fun n => rfl) c18 ?_
        obtain ⟨p19, e20, H⟩ := H
        show Ek _ _ _ (va_rf (mP h p16 1) :: _) _ _
        rw [e20]
        refine Ek.chk 3 (fun n => rfl) c18 ?_
        have c21 := H.1
        refine Ek.chk 8 (fun n => rfl) c21 ?_
        replace H := H.2
        refine Ek.br 2 (fun n => rfl) (fun hc => ?_) (fun hc => ?_)
        · replace H := H.1 hc
          refine Ek.ret 2 (fun n => rfl) ?_
          refine Ek.chk 3 (fun n => rfl) c1 ?_
          show Ek _ _ _ (va_rf (mP h a0 14) :: _) _ _
          rw [e17]
          refine Ek.chk 2 (fun n => rfl) c1 ?_
          refine Ek.callT 4 (fun n => rfl) c18 ?_
          refine Ek.mono H ?_
          rintro _ h23 ⟨rfl, H⟩
          exact H
        · replace H := H.2 hc
          refine Ek.ret 3 (fun n => rfl) ?_
          refine Ek.chk 3 (fun n => rfl) c1 ?_
          show Ek _ _ _ (va_rf (mP h a0 14) :: _) _ _
          rw [e17]
          refine Ek.chk 2 (fun n => rfl) c1 ?_
          refine Ek.callT 2 (fun n => rfl) c18 ?_
          refine Ek.chk 2 (fun n => rfl) c18 ?_
          show Ek _ _ _ (va_rf (mP h p16 1) :: _) _ _
          rw [e20]
          refine Ek.chk 3 (fun n => rfl) c18 ?_
          refine Ek.chk 8 (fun n => rfl) c21 ?_
          refine Ek.ret 1 (fun n => rfl) ?_
          refine Ek.br 3 (fun n => rfl) (fun hc => ?_) (fun hc => ?_)
          · replace H := H.1 hc
            refine Ek.chk 2 (fun n => rfl) c1 ?_
            show Ek _ _ _ (va_rf (mP h a0 14) :: _) _ _
            rw [e17]
            refine Ek.chk 2 (fun n => rfl) c1 ?_
            refine Ek.callT 0 (fun n => rfl) c18 ?_
            refine Ek.chk 2 (fun n => rfl) c18 ?_
            obtain ⟨p27, e28, H⟩ := H
            show Ek _ _ _ (va_rf (mP h p16 2) :: _) _ _
            rw [e28]
            have c29 := H.1
            refine Ek.chk 2 (fun n => rfl) c29 ?_
            replace H := H.2
            refine Ek.ret 1 (fun n => rfl) ?_
            exact Ek.go 3 (fun n => rfl) H
          · replace H := H.2 hc
            exact Ek.go 3 (fun n => rfl) H
  · replace H := H.2 hc
    refine Ek.chk 6 (fun n => rfl) c1 ?_
    refine Ek.br 2 (fun n => rfl) (fun hc => ?_) (fun hc => ?_)
    · replace H := H.1 hc
      exact H
    · replace H := H.2 hc
      refine Ek.chk 2 (fun n => rfl) c1 ?_
      obtain ⟨p30, e31, H⟩ := H
      show Ek _ _ _ (va_rf (mP h a0 14) :: _) _ _
      rw [e31]
      refine Ek.chk 2 (fun n => rfl) c1 ?_
      have c32 := H.1
      refine Ek.callT 2 (fun n => rfl) c32 ?_
      replace H := H.2
      refine Ek.chk 2 (fun n => rfl) c32 ?_
      obtain ⟨p33, e34, H⟩ := H
      show Ek _ _ _ (va_rf (mP h p30 1) :: _) _ _
      rw [e34]
      refine Ek.chk 3 (fun n => rfl) c32 ?_
      have c35 := H.1
      refine Ek.chk 8 (fun n => rfl) c35 ?_
      replace H := H.2
      refine Ek.br 2 (fun n => rfl) (fun hc => ?_) (fun hc => ?_)
      · replace H := H.1 hc
        refine Ek.ret 2 (fun n => rfl) ?_
        refine Ek.chk 3 (fun n => rfl) c1 ?_
        show Ek _ _ _ (va_rf (mP h a0 14) :: _) _ _
        rw [e31]
        refine Ek.chk 2 (fun n => rfl) c1 ?_
        refine Ek.callT 4 (fun n => rfl) c32 ?_
        refine Ek.mono H ?_
        rintro _ h37 ⟨rfl, H⟩
        exact H
      · replace H := H.2 hc
        refine Ek.ret 3 (fun n => rfl) ?_
        refine Ek.chk 3 (fun n => rfl) c1 ?_
        show Ek _ _ _ (va_rf (mP h a0 14) :: _) _ _
        rw [e31]
        refine Ek.chk 2 (fun n => rfl) c1 ?_
        refine Ek.callT 2 (fun n => rfl) c32 ?_
        refine Ek.chk 2 (fun n => rfl) c32 ?_
        show Ek _ _ _ (va_rf (mP h p30 1) :: _) _ _
        rw [e34]
        refine Ek.chk 3 (fun n => rfl) c32 ?_
        refine Ek.chk 8 (fun n => rfl) c35 ?_
        refine Ek.ret 1 (fun n => rfl) ?_
        refine Ek.br 3 (fun n => rfl) (fun hc => ?_) (fun hc => ?_)
        · replace H := H.1 hc
          refine Ek.chk 2 (fun n => rfl) c1 ?_
          show Ek _ _ _ (va_rf (mP h a0 14) :: _) _ _
          rw [e31]
          refine Ek.chk 2 (fun n => rfl) c1 ?_
          refine Ek.callT 0 (fun n => rfl) c32 ?_
          refine Ek.chk 2 (fun n => rfl) c32 ?_
          obtain ⟨p41, e42, H⟩ := H
          show Ek _ _ _ (va_rf (mP h p30 2) :: _) _ _
          rw [e42]
          have c43 := H.1
          refine Ek.chk 2 (fun n => rfl) c43 ?_
          replace H := H.2
          refine Ek.ret 1 (fun n => rfl) ?_
          exact Ek.go 3 (fun n => rfl) H
        · replace H := H.2 hc
          exact Ek.go 3 (fun n => rfl) H

/-- RoundVotes$Node.send(III)V, from 103 -/
set_option maxRecDepth 4000 in
theorem T40_103 {v0 : Nat} {v1 : Int32} {v2 : Int32} {v3 : Int32} {v4 : Int32} {v5 : Int32} {h : mH} {K : Option Value → mH → Prop} (H : (mTg h v0 = 7) ∧ (∃ p2, mP h v0 12 = some p2 ∧ ((mTg h p2 = 1) ∧ (∃ p5, mP h p2 1 = some p5 ∧ (((mTg h p5 = 20 ∨ mTg h p5 = 30) ∧ ¬ (((((mI h v0 3) * (mI h p2 0)) + (mI h v0 0)) * 3) + v1) < 0 ∧ ((((((mI h v0 3) * (mI h p2 0)) + (mI h v0 0)) * 3) + v1).toNatClampNeg) < mLn h p5) ∧ (((mI h p5 ((((((mI h v0 3) * (mI h p2 0)) + (mI h v0 0)) * 3) + v1).toNatClampNeg)) = (-2) → (Ek 11 0 [some (.ref p2), some (.int (mI h v0 3)), some (.int (mI h v0 0)), some (.int v1), some (.int v4), some (.int v5)] [] h (fun r h9 => r = none ∧ (Ek 40 142 [some (.ref v0), some (.int v1), some (.int v2), some (.int v3), some (.int v4), some (.int v5)] [] h9 K)))) ∧ (¬ (mI h p5 ((((((mI h v0 3) * (mI h p2 0)) + (mI h v0 0)) * 3) + v1).toNatClampNeg)) = (-2) → (Ek 40 142 [some (.ref v0), some (.int v1), some (.int v2), some (.int v3), some (.int v4), some (.int v5)] [] h K)))))))) : Ek 40 103 [some (.ref v0), some (.int v1), some (.int v2), some (.int v3), some (.int v4), some (.int v5)] [] h K := by
  have c1 := H.1
  refine Ek.chk 2 (fun n => rfl) c1 ?_
  replace H := H.2
  obtain ⟨p2, e3, H⟩ := H
  show Ek _ _ _ (va_rf (mP h v0 12) :: _) _ _
  rw [e3]
  refine Ek.chk 2 (fun n => rfl) c1 ?_
  refine Ek.chk 2 (fun n => rfl) c1 ?_
  have c4 := H.1
  refine Ek.callT 1 (fun n => rfl) c4 ?_
  replace H := H.2
  refine Ek.chk 2 (fun n => rfl) c4 ?_
  obtain ⟨p5, e6, H⟩ := H
  show Ek _ _ _ (va_rf (mP h p2 1) :: _) _ _
  rw [e6]
  refine Ek.chk 3 (fun n => rfl) c4 ?_
  have c7 := H.1
  refine Ek.chk 8 (fun n => rfl) c7 ?_
  replace H := H.2
  refine Ek.br 2 (fun n => rfl) (fun hc => ?_) (fun hc => ?_)
  · replace H := H.1 hc
    refine Ek.ret 2 (fun n => rfl) ?_
    refine Ek.chk 3 (fun n => rfl) c1 ?_
    show Ek _ _ _ (va_rf (mP h v0 12) :: _) _ _
    rw [e3]
    refine Ek.chk 2 (fun n => rfl) c1 ?_
    refine Ek.chk 2 (fun n => rfl) c1 ?_
    refine Ek.callT 3 (fun n => rfl) c4 ?_
    refine Ek.mono H ?_
    rintro _ h9 ⟨rfl, H⟩
    exact H
  · replace H := H.2 hc
    refine Ek.ret 3 (fun n => rfl) ?_
    exact Ek.go 1 (fun n => rfl) H

/-- RoundVotes$Node.send(III)V, from 142 -/
set_option maxRecDepth 4000 in
theorem T40_142 {v0 : Nat} {v1 : Int32} {v2 : Int32} {v3 : Int32} {v4 : Int32} {v5 : Int32} {h : mH} {K : Option Value → mH → Prop} (H : (mTg h v0 = 7) ∧ (∃ p2, mP h v0 16 = some p2 ∧ ((mTg h p2 = 6) ∧ (∀ h4, h4 = wI h p2 0 (mI h v0 0) → (∀ h7, h7 = wI h4 p2 2 (mI h4 v0 2) → (∀ h9, h9 = wI h7 p2 3 (mI h7 v0 3) → (∀ h11, h11 = wI h9 p2 4 v1 → (∀ h13, h13 = wI h11 p2 5 v4 → (∀ h15, h15 = wI h13 p2 6 v5 → ((mTg h v0 = 7 ∧ ((1 : Int32) = 0 ∨ (1 : Int32) = 1)) ∧ (∀ h16, h16 = wI h15 v0 17 1 → ((v1 = 0 → (Ek 40 224 [some (.ref v0), some (.int v1), some (.int v2), some (.int v3), some (.int v4), some (.int v5)] [] h16 K)) ∧ (¬ v1 = 0 → ((v1 = 1 → (∀ h18, h18 = wI h16 v0 4 1 → (Ek 40 224 [some (.ref v0), some (.int v1), some (.int v2), some (.int v3), some (.int v4), some (.int v5)] [] h18 K))) ∧ (¬ v1 = 1 → (∀ h19, h19 = wI h16 v0 4 2 → (Ek 40 224 [some (.ref v0), some (.int v1), some (.int v2), some (.int v3), some (.int v4), some (.int v5)] [] h19 K))))))))))))))))) : Ek 40 142 [some (.ref v0), some (.int v1), some (.int v2), some (.int v3), some (.int v4), some (.int v5)] [] h K := by
  have c1 := H.1
  refine Ek.chk 2 (fun n => rfl) c1 ?_
  replace H := H.2
  obtain ⟨p2, e3, H⟩ := H
  show Ek _ _ _ (va_rf (mP h v0 16) :: _) _ _
  rw [e3]
  refine Ek.chk 2 (fun n => rfl) c1 ?_
  have c5 := H.1
  refine Ek.chk 1 (fun n => rfl) c5 ?_
  replace H := H.2
  let h4 : mH := wI h p2 0 (mI h v0 0)
  replace H := H h4 rfl
  show Ek _ _ _ _ h4 _
  refine Ek.chk 2 (fun n => rfl) c1 ?_
  show Ek _ _ _ (va_rf (mP h v0 16) :: _) _ _
  rw [e3]
  refine Ek.chk 2 (fun n => rfl) c1 ?_
  refine Ek.chk 1 (fun n => rfl) c5 ?_
  let h7 : mH := wI h4 p2 2 (mI h4 v0 2)
  replace H := H h7 rfl
  show Ek _ _ _ _ h7 _
  refine Ek.chk 2 (fun n => rfl) c1 ?_
  show Ek _ _ _ (va_rf (mP h v0 16) :: _) _ _
  rw [e3]
  refine Ek.chk 2 (fun n => rfl) c1 ?_
  refine Ek.chk 1 (fun n => rfl) c5 ?_
  let h9 : mH := wI h7 p2 3 (mI h7 v0 3)
  replace H := H h9 rfl
  show Ek _ _ _ _ h9 _
  refine Ek.chk 2 (fun n => rfl) c1 ?_
  show Ek _ _ _ (va_rf (mP h v0 16) :: _) _ _
  rw [e3]
  refine Ek.chk 2 (fun n => rfl) c5 ?_
  let h11 : mH := wI h9 p2 4 v1
  replace H := H h11 rfl
  show Ek _ _ _ _ h11 _
  refine Ek.chk 2 (fun n => rfl) c1 ?_
  show Ek _ _ _ (va_rf (mP h v0 16) :: _) _ _
  rw [e3]
  refine Ek.chk 2 (fun n => rfl) c5 ?_
  let h13 : mH := wI h11 p2 5 v4
  replace H := H h13 rfl
  show Ek _ _ _ _ h13 _
  refine Ek.chk 2 (fun n => rfl) c1 ?_
  show Ek _ _ _ (va_rf (mP h v0 16) :: _) _ _
  rw [e3]
  refine Ek.chk 2 (fun n => rfl) c5 ?_
  let h15 : mH := wI h13 p2 6 v5
  replace H := H h15 rfl
  show Ek _ _ _ _ h15 _
  have c17 := H.1
  refine Ek.chk 3 (fun n => rfl) c17 ?_
  replace H := H.2
  let h16 : mH := wI h15 v0 17 1
  replace H := H h16 rfl
  show Ek _ _ _ _ h16 _
  refine Ek.br 2 (fun n => rfl) (fun hc => ?_) (fun hc => ?_)
  · replace H := H.1 hc
    exact H
  · replace H := H.2 hc
    refine Ek.br 4 (fun n => rfl) (fun hc => ?_) (fun hc => ?_)
    · replace H := H.1 hc
      refine Ek.chk 3 (fun n => rfl) c1 ?_
      let h18 : mH := wI h16 v0 4 1
      replace H := H h18 rfl
      show Ek _ _ _ _ h18 _
      exact H
    · replace H := H.2 hc
      refine Ek.chk 2 (fun n => rfl) c1 ?_
      let h19 : mH := wI h16 v0 4 2
      replace H := H h19 rfl
      show Ek _ _ _ _ h19 _
      exact H

/-- RoundVotes$Node.send(III)V, from 224 -/
set_option maxRecDepth 4000 in
theorem T40_224 {v0 : Nat} {v1 : Int32} {v2 : Int32} {v3 : Int32} {v4 : Int32} {v5 : Int32} {h : mH} {K : Option Value → mH → Prop} (H : K none h) : Ek 40 224 [some (.ref v0), some (.int v1), some (.int v2), some (.int v3), some (.int v4), some (.int v5)] [] h K := by
  exact Ek.ret 1 (fun n => rfl) H

/-- RoundVotes$Node.timesSending()I, from 0 -/
set_option maxRecDepth 4000 in
theorem T41 {a0 : Nat} {h : mH} {K : Option Value → mH → Prop} (H : (mTg h a0 = 7) ∧ (((mI h a0 7) = 1 → (K (some (.int 0)) h)) ∧ (¬ (mI h a0 7) = 1 → (((mI h a0 7) = 3 → (K (some (.int 2)) h)) ∧ (¬ (mI h a0 7) = 3 → (K (some (.int 1)) h)))))) : Ek 41 0 [some (.ref a0)] [] h K := by
  have c1 := H.1
  refine Ek.chk 2 (fun n => rfl) c1 ?_
  replace H := H.2
  refine Ek.br 2 (fun n => rfl) (fun hc => ?_) (fun hc => ?_)
  · replace H := H.1 hc
    exact Ek.ret 2 (fun n => rfl) H
  · replace H := H.2 hc
    refine Ek.chk 2 (fun n => rfl) c1 ?_
    refine Ek.br 2 (fun n => rfl) (fun hc => ?_) (fun hc => ?_)
    · replace H := H.1 hc
      exact Ek.ret 3 (fun n => rfl) H
    · replace H := H.2 hc
      exact Ek.ret 2 (fun n => rfl) H

/-- RoundVotes$Node.deceives(I)Z, from 0 -/
set_option maxRecDepth 4000 in
theorem T42 {a0 : Nat} {a1 : Int32} {h : mH} {K : Option Value → mH → Prop} (H : (mTg h a0 = 7) ∧ (((mI h a0 7) = 2 → ((¬ 2 = 0) ∧ (((a1 - a1 / 2 * 2) = 1 → (K (some (.int 1)) h)) ∧ (¬ (a1 - a1 / 2 * 2) = 1 → (K (some (.int 0)) h))))) ∧ (¬ (mI h a0 7) = 2 → (K (some (.int 0)) h)))) : Ek 42 0 [some (.ref a0), some (.int a1)] [] h K := by
  have c1 := H.1
  refine Ek.chk 2 (fun n => rfl) c1 ?_
  replace H := H.2
  refine Ek.br 2 (fun n => rfl) (fun hc => ?_) (fun hc => ?_)
  · replace H := H.1 hc
    have c2 := H.1
    refine Ek.nch 3 (fun n => rfl) c2 ?_
    replace H := H.2
    refine Ek.br 2 (fun n => rfl) (fun hc => ?_) (fun hc => ?_)
    · replace H := H.1 hc
      exact Ek.ret 3 (fun n => rfl) H
    · replace H := H.2 hc
      exact Ek.ret 2 (fun n => rfl) H
  · replace H := H.2 hc
    exact Ek.ret 2 (fun n => rfl) H

/-- RoundVotes$Node.followsRule(I)Z, from 0 -/
set_option maxRecDepth 4000 in
theorem T43 {a0 : Nat} {a1 : Int32} {h : mH} {K : Option Value → mH → Prop} (H : (mTg h a0 = 7) ∧ (((mI h a0 2) ≤ 40 → (Ek 44 0 [some (.ref a0), none, none, none] [] h (fun r h2 => ∃ x3 : Int32, r = some (.int x3) ∧ ((x3 = (-1) → ((mTg h2 a0 = 7) ∧ (Ek 49 0 [some (.ref a0), none, none] [] h2 (fun r h5 => ∃ x6 : Int32, r = some (.int x6) ∧ ((x6 = (-1) → ((mTg h5 a0 = 7) ∧ (Ek 51 0 [some (.ref a0), none, none] [] h5 (fun r h8 => ∃ x9 : Int32, r = some (.int x9) ∧ ((x9 = 0 → ((mTg h8 a0 = 7) ∧ (Ek 53 0 [some (.ref a0), none] [] h8 (fun r h11 => ∃ x12 : Int32, r = some (.int x12) ∧ ((x12 = 0 → ((mTg h11 a0 = 7) ∧ (Ek 54 0 [some (.ref a0)] [] h11 (fun r h14 => ∃ x15 : Int32, r = some (.int x15) ∧ ((x15 = 0 → ((mTg h14 a0 = 7) ∧ (Ek 55 0 [some (.ref a0), some (.int a1)] [] h14 (fun r h17 => ∃ x18 : Int32, r = some (.int x18) ∧ ((x18 = 0 → ((mTg h17 a0 = 7) ∧ (Ek 56 0 [some (.ref a0), some (.int a1)] [] h17 (fun r h20 => ∃ x21 : Int32, r = some (.int x21) ∧ ((x21 = 0 → (K (some (.int 0)) h20)) ∧ (¬ x21 = 0 → (K (some (.int 1)) h20))))))) ∧ (¬ x18 = 0 → (K (some (.int 1)) h17))))))) ∧ (¬ x15 = 0 → (K (some (.int 1)) h14))))))) ∧ (¬ x12 = 0 → (K (some (.int 1)) h11))))))) ∧ (¬ x9 = 0 → (K (some (.int 1)) h8))))))) ∧ (¬ x6 = (-1) → ((mTg h5 a0 = 7) ∧ (Ek 38 0 [some (.ref a0), some (.int x6), some (.int a1), none] [] h5 (fun r h23 => r = none ∧ (K (some (.int 1)) h23)))))))))) ∧ (¬ x3 = (-1) → ((mTg h2 a0 = 7) ∧ (Ek 47 0 [some (.ref a0), some (.int x3), none] [] h2 (fun r h25 => r = none ∧ ((mTg h25 a0 = 7) ∧ (Ek 38 0 [some (.ref a0), some (.int 0), some (.int a1), none] [] h25 (fun r h27 => r = none ∧ (K (some (.int 1)) h27)))))))))))) ∧ (¬ (mI h a0 2) ≤ 40 → (K (some (.int 0)) h)))) : Ek 43 0 [some (.ref a0), some (.int a1), none, none] [] h K := by
  have c1 := H.1
  refine Ek.callT 1 (fun n => rfl) c1 ?_
  replace H := H.2
  refine Ek.chk 2 (fun n => rfl) c1 ?_
  refine Ek.br 2 (fun n => rfl) (fun hc => ?_) (fun hc => ?_)
  · replace H := H.1 hc
    refine Ek.ret 2 (fun n => rfl) ?_
    refine Ek.callT 2 (fun n => rfl) c1 ?_
    refine Ek.mono H ?_
    rintro _ h2 ⟨x3, rfl, H⟩
    refine Ek.br 4 (fun n => rfl) (fun hc => ?_) (fun hc => ?_)
    · replace H := H.1 hc
      have c4 := H.1
      refine Ek.callT 1 (fun n => rfl) c4 ?_
      replace H := H.2
      refine Ek.mono H ?_
      rintro _ h5 ⟨x6, rfl, H⟩
      refine Ek.br 4 (fun n => rfl) (fun hc => ?_) (fun hc => ?_)
      · replace H := H.1 hc
        have c7 := H.1
        refine Ek.callT 1 (fun n => rfl) c7 ?_
        replace H := H.2
        refine Ek.mono H ?_
        rintro _ h8 ⟨x9, rfl, H⟩
        refine Ek.br 1 (fun n => rfl) (fun hc => ?_) (fun hc => ?_)
        · replace H := H.1 hc
          have c10 := H.1
          refine Ek.callT 1 (fun n => rfl) c10 ?_
          replace H := H.2
          refine Ek.mono H ?_
          rintro _ h11 ⟨x12, rfl, H⟩
          refine Ek.br 1 (fun n => rfl) (fun hc => ?_) (fun hc => ?_)
          · replace H := H.1 hc
            have c13 := H.1
            refine Ek.callT 1 (fun n => rfl) c13 ?_
            replace H := H.2
            refine Ek.mono H ?_
            rintro _ h14 ⟨x15, rfl, H⟩
            refine Ek.br 1 (fun n => rfl) (fun hc => ?_) (fun hc => ?_)
            · replace H := H.1 hc
              have c16 := H.1
              refine Ek.callT 2 (fun n => rfl) c16 ?_
              replace H := H.2
              refine Ek.mono H ?_
              rintro _ h17 ⟨x18, rfl, H⟩
              refine Ek.br 1 (fun n => rfl) (fun hc => ?_) (fun hc => ?_)
              · replace H := H.1 hc
                have c19 := H.1
                refine Ek.callT 2 (fun n => rfl) c19 ?_
                replace H := H.2
                refine Ek.mono H ?_
                rintro _ h20 ⟨x21, rfl, H⟩
                refine Ek.br 1 (fun n => rfl) (fun hc => ?_) (fun hc => ?_)
                · replace H := H.1 hc
                  exact Ek.ret 2 (fun n => rfl) H
                · replace H := H.2 hc
                  exact Ek.ret 3 (fun n => rfl) H
              · replace H := H.2 hc
                exact Ek.ret 3 (fun n => rfl) H
            · replace H := H.2 hc
              exact Ek.ret 3 (fun n => rfl) H
          · replace H := H.2 hc
            exact Ek.ret 3 (fun n => rfl) H
        · replace H := H.2 hc
          exact Ek.ret 3 (fun n => rfl) H
      · replace H := H.2 hc
        have c22 := H.1
        refine Ek.callT 3 (fun n => rfl) c22 ?_
        replace H := H.2
        refine Ek.mono H ?_
        rintro _ h23 ⟨rfl, H⟩
        exact Ek.ret 2 (fun n => rfl) H
    · replace H := H.2 hc
      have c24 := H.1
      refine Ek.callT 2 (fun n => rfl) c24 ?_
      replace H := H.2
      refine Ek.mono H ?_
      rintro _ h25 ⟨rfl, H⟩
      have c26 := H.1
      refine Ek.callT 3 (fun n => rfl) c26 ?_
      replace H := H.2
      refine Ek.mono H ?_
      rintro _ h27 ⟨rfl, H⟩
      exact Ek.ret 2 (fun n => rfl) H
  · replace H := H.2 hc
    refine Ek.ret 3 (fun n => rfl) ?_
    exact Ek.ret 3 (fun n => rfl) H

/-- RoundVotes$Node.roundToDecide()I, from 0 -/
set_option maxRecDepth 4000 in
theorem T44 {a0 : Nat} {h : mH} {K : Option Value → mH → Prop} (H : (mTg h a0 = 7) ∧ (∃ p2, mP h a0 12 = some p2 ∧ ((mTg h p2 = 1) ∧ (Ek 44 10 [some (.ref a0), some (.int (mI h p2 3)), some (.int 0), none] [] h K)))) : Ek 44 0 [some (.ref a0), none, none, none] [] h K := by
  have c1 := H.1
  refine Ek.chk 2 (fun n => rfl) c1 ?_
  replace H := H.2
  obtain ⟨p2, e3, H⟩ := H
  show Ek _ _ _ (va_rf (mP h a0 12) :: _) _ _
  rw [e3]
  have c4 := H.1
  refine Ek.chk 1 (fun n => rfl) c4 ?_
  replace H := H.2
  exact Ek.go 3 (fun n => rfl) H

/-- RoundVotes$Node.roundToDecide()I, from 10 -/
set_option maxRecDepth 4000 in
theorem T44_10 {v0 : Nat} {v1 : Int32} {v2 : Int32} {h : mH} {K : Option Value → mH → Prop} (H : (v1 < v2 → (K (some (.int (-1))) h)) ∧ (¬ v1 < v2 → ((mTg h v0 = 7) ∧ (∃ p2, mP h v0 12 = some p2 ∧ (∃ p4, mP h v0 1 = some p4 ∧ ((mTg h p4 = 9) ∧ ((¬ (mI h p4 0) = 0) ∧ ((mTg h p2 = 1) ∧ (∃ p9, mP h p2 1 = some p9 ∧ (((mTg h p9 = 20 ∨ mTg h p9 = 30) ∧ ¬ ((((v2 * (mI h p2 0)) + (((mI h v0 2) + v2) - ((mI h v0 2) + v2) / (mI h p4 0) * (mI h p4 0))) * 3) + 0) < 0 ∧ (((((v2 * (mI h p2 0)) + (((mI h v0 2) + v2) - ((mI h v0 2) + v2) / (mI h p4 0) * (mI h p4 0))) * 3) + 0).toNatClampNeg) < mLn h p9) ∧ (((mI h p9 (((((v2 * (mI h p2 0)) + (((mI h v0 2) + v2) - ((mI h v0 2) + v2) / (mI h p4 0) * (mI h p4 0))) * 3) + 0).toNatClampNeg)) = (-2) → (Ek 44 10 [some (.ref v0), some (.int v1), some (.int (v2 + 1)), some (.int (mI h p9 (((((v2 * (mI h p2 0)) + (((mI h v0 2) + v2) - ((mI h v0 2) + v2) / (mI h p4 0) * (mI h p4 0))) * 3) + 0).toNatClampNeg)))] [] h K)) ∧ (¬ (mI h p9 (((((v2 * (mI h p2 0)) + (((mI h v0 2) + v2) - ((mI h v0 2) + v2) / (mI h p4 0) * (mI h p4 0))) * 3) + 0).toNatClampNeg)) = (-2) → (Ek 12 0 [some (.ref p2), some (.int v2), some (.int 2), some (.int (mI h p9 (((((v2 * (mI h p2 0)) + (((mI h v0 2) + v2) - ((mI h v0 2) + v2) / (mI h p4 0) * (mI h p4 0))) * 3) + 0).toNatClampNeg))), none, none] [] h (fun r h13 => ∃ x14 : Int32, r = some (.int x14) ∧ ((mTg h13 v0 = 7) ∧ (Ek 46 0 [some (.ref v0), some (.int x14)] [] h13 (fun r h16 => ∃ x17 : Int32, r = some (.int x17) ∧ ((x17 = 0 → (Ek 44 10 [some (.ref v0), some (.int v1), some (.int (v2 + 1)), some (.int (mI h p9 (((((v2 * (mI h p2 0)) + (((mI h v0 2) + v2) - ((mI h v0 2) + v2) / (mI h p4 0) * (mI h p4 0))) * 3) + 0).toNatClampNeg)))] [] h16 K)) ∧ (¬ x17 = 0 → (K (some (.int v2)) h16)))))))))))))))))))) : Ek 44 10 [some (.ref v0), some (.int v1), some (.int v2), none] [] h K := by
  refine Ek.br 3 (fun n => rfl) (fun hc => ?_) (fun hc => ?_)
  · replace H := H.1 hc
    exact Ek.ret 2 (fun n => rfl) H
  · replace H := H.2 hc
    have c1 := H.1
    refine Ek.callT 2 (fun n => rfl) c1 ?_
    replace H := H.2
    refine Ek.chk 2 (fun n => rfl) c1 ?_
    obtain ⟨p2, e3, H⟩ := H
    show Ek _ _ _ (va_rf (mP h v0 12) :: _) _ _
    rw [e3]
    refine Ek.chk 3 (fun n => rfl) c1 ?_
    obtain ⟨p4, e5, H⟩ := H
    show Ek _ _ _ (va_rf (mP h v0 1) :: _) _ _
    rw [e5]
    refine Ek.chk 2 (fun n => rfl) c1 ?_
    have c6 := H.1
    refine Ek.callT 1 (fun n => rfl) c6 ?_
    replace H := H.2
    refine Ek.chk 5 (fun n => rfl) c6 ?_
    have c7 := H.1
    refine Ek.nch 1 (fun n => rfl) c7 ?_
    replace H := H.2
    refine Ek.ret 1 (fun n => rfl) ?_
    have c8 := H.1
    refine Ek.callT 1 (fun n => rfl) c8 ?_
    replace H := H.2
    refine Ek.chk 2 (fun n => rfl) c8 ?_
    obtain ⟨p9, e10, H⟩ := H
    show Ek _ _ _ (va_rf (mP h p2 1) :: _) _ _
    rw [e10]
    refine Ek.chk 3 (fun n => rfl) c8 ?_
    have c11 := H.1
    refine Ek.chk 8 (fun n => rfl) c11 ?_
    replace H := H.2
    refine Ek.ret 1 (fun n => rfl) ?_
    refine Ek.ret 1 (fun n => rfl) ?_
    refine Ek.br 4 (fun n => rfl) (fun hc => ?_) (fun hc => ?_)
    · replace H := H.1 hc
      exact Ek.go 2 (fun n => rfl) H
    · replace H := H.2 hc
      refine Ek.chk 3 (fun n => rfl) c1 ?_
      show Ek _ _ _ (va_rf (mP h v0 12) :: _) _ _
      rw [e3]
      refine Ek.callT 3 (fun n => rfl) c8 ?_
      refine Ek.mono H ?_
      rintro _ h13 ⟨x14, rfl, H⟩
      have c15 := H.1
      refine Ek.callT 0 (fun n => rfl) c15 ?_
      replace H := H.2
      refine Ek.mono H ?_
      rintro _ h16 ⟨x17, rfl, H⟩
      refine Ek.br 1 (fun n => rfl) (fun hc => ?_) (fun hc => ?_)
      · replace H := H.1 hc
        exact Ek.go 2 (fun n => rfl) H
      · replace H := H.2 hc
        exact Ek.ret 2 (fun n => rfl) H

/-- RoundVotes$Node.proposalOf(I)I, from 0 -/
set_option maxRecDepth 4000 in
theorem T45 {a0 : Nat} {a1 : Int32} {h : mH} {K : Option Value → mH → Prop} (H : (mTg h a0 = 7) ∧ (∃ p2, mP h a0 12 = some p2 ∧ (∃ p4, mP h a0 1 = some p4 ∧ ((mTg h p4 = 9) ∧ ((¬ (mI h p4 0) = 0) ∧ ((mTg h p2 = 1) ∧ (∃ p9, mP h p2 1 = some p9 ∧ (((mTg h p9 = 20 ∨ mTg h p9 = 30) ∧ ¬ ((((a1 * (mI h p2 0)) + (((mI h a0 2) + a1) - ((mI h a0 2) + a1) / (mI h p4 0) * (mI h p4 0))) * 3) + 0) < 0 ∧ (((((a1 * (mI h p2 0)) + (((mI h a0 2) + a1) - ((mI h a0 2) + a1) / (mI h p4 0) * (mI h p4 0))) * 3) + 0).toNatClampNeg) < mLn h p9) ∧ (K (some (.int (mI h p9 (((((a1 * (mI h p2 0)) + (((mI h a0 2) + a1) - ((mI h a0 2) + a1) / (mI h p4 0) * (mI h p4 0))) * 3) + 0).toNatClampNeg)))) h))))))))) : Ek 45 0 [some (.ref a0), some (.int a1)] [] h K := by
  have c1 := H.1
  refine Ek.chk 2 (fun n => rfl) c1 ?_
  replace H := H.2
  obtain ⟨p2, e3, H⟩ := H
  show Ek _ _ _ (va_rf (mP h a0 12) :: _) _ _
  rw [e3]
  refine Ek.chk 3 (fun n => rfl) c1 ?_
  obtain ⟨p4, e5, H⟩ := H
  show Ek _ _ _ (va_rf (mP h a0 1) :: _) _ _
  rw [e5]
  refine Ek.chk 2 (fun n => rfl) c1 ?_
  have c6 := H.1
  refine Ek.callT 1 (fun n => rfl) c6 ?_
  replace H := H.2
  refine Ek.chk 5 (fun n => rfl) c6 ?_
  have c7 := H.1
  refine Ek.nch 1 (fun n => rfl) c7 ?_
  replace H := H.2
  refine Ek.ret 1 (fun n => rfl) ?_
  have c8 := H.1
  refine Ek.callT 1 (fun n => rfl) c8 ?_
  replace H := H.2
  refine Ek.chk 2 (fun n => rfl) c8 ?_
  obtain ⟨p9, e10, H⟩ := H
  show Ek _ _ _ (va_rf (mP h p2 1) :: _) _ _
  rw [e10]
  refine Ek.chk 3 (fun n => rfl) c8 ?_
  have c11 := H.1
  refine Ek.chk 8 (fun n => rfl) c11 ?_
  replace H := H.2
  refine Ek.ret 1 (fun n => rfl) ?_
  exact Ek.ret 1 (fun n => rfl) H

/-- RoundVotes$Node.areMany(I)Z, from 0 -/
set_option maxRecDepth 4000 in
theorem T46 {a0 : Nat} {a1 : Int32} {h : mH} {K : Option Value → mH → Prop} (H : (mTg h a0 = 7) ∧ (∃ p2, mP h a0 1 = some p2 ∧ ((mTg h p2 = 9) ∧ (Ek 30 0 [some (.ref p2), some (.int a1), some (.int (mI h a0 2)), none, none] [] h (fun r h5 => ∃ x6 : Int32, r = some (.int x6) ∧ ((mTg h5 a0 = 7) ∧ (∃ p8, mP h5 a0 1 = some p8 ∧ ((mTg h5 p8 = 9) ∧ (∃ p11, mP h5 p8 3 = some p11 ∧ (((mTg h5 p11 = 20 ∨ mTg h5 p11 = 30) ∧ ¬ (mI h5 a0 2) < 0 ∧ ((mI h5 a0 2).toNatClampNeg) < mLn h5 p11) ∧ (((3 * x6) ≤ (2 * (mI h5 p11 ((mI h5 a0 2).toNatClampNeg))) → (K (some (.int 0)) h5)) ∧ (¬ (3 * x6) ≤ (2 * (mI h5 p11 ((mI h5 a0 2).toNatClampNeg))) → (K (some (.int 1)) h5))))))))))))) : Ek 46 0 [some (.ref a0), some (.int a1)] [] h K := by
  have c1 := H.1
  refine Ek.chk 3 (fun n => rfl) c1 ?_
  replace H := H.2
  obtain ⟨p2, e3, H⟩ := H
  show Ek _ _ _ (va_rf (mP h a0 1) :: _) _ _
  rw [e3]
  refine Ek.chk 3 (fun n => rfl) c1 ?_
  have c4 := H.1
  refine Ek.callT 0 (fun n => rfl) c4 ?_
  replace H := H.2
  refine Ek.mono H ?_
  rintro _ h5 ⟨x6, rfl, H⟩
  have c7 := H.1
  refine Ek.chk 4 (fun n => rfl) c7 ?_
  replace H := H.2
  obtain ⟨p8, e9, H⟩ := H
  show Ek _ _ _ (va_rf (mP h5 a0 1) :: _) _ _
  rw [e9]
  have c10 := H.1
  refine Ek.chk 1 (fun n => rfl) c10 ?_
  replace H := H.2
  obtain ⟨p11, e12, H⟩ := H
  show Ek _ _ _ (va_rf (mP h5 p8 3) :: _) _ _
  rw [e12]
  refine Ek.chk 2 (fun n => rfl) c7 ?_
  have c13 := H.1
  refine Ek.chk 1 (fun n => rfl) c13 ?_
  replace H := H.2
  refine Ek.br 2 (fun n => rfl) (fun hc => ?_) (fun hc => ?_)
  · replace H := H.1 hc
    exact Ek.ret 2 (fun n => rfl) H
  · replace H := H.2 hc
    exact Ek.ret 3 (fun n => rfl) H

/-- RoundVotes$Node.decide(I)V, from 0 -/
set_option maxRecDepth 4000 in
theorem T47 {a0 : Nat} {a1 : Int32} {h : mH} {K : Option Value → mH → Prop} (H : (mTg h a0 = 7) ∧ (∃ p2, mP h a0 12 = some p2 ∧ (∃ p4, mP h a0 1 = some p4 ∧ ((mTg h p4 = 9) ∧ ((¬ (mI h p4 0) = 0) ∧ ((mTg h p2 = 1) ∧ (∃ p9, mP h p2 1 = some p9 ∧ (((mTg h p9 = 20 ∨ mTg h p9 = 30) ∧ ¬ ((((a1 * (mI h p2 0)) + (((mI h a0 2) + a1) - ((mI h a0 2) + a1) / (mI h p4 0) * (mI h p4 0))) * 3) + 0) < 0 ∧ (((((a1 * (mI h p2 0)) + (((mI h a0 2) + a1) - ((mI h a0 2) + a1) / (mI h p4 0) * (mI h p4 0))) * 3) + 0).toNatClampNeg) < mLn h p9) ∧ (∃ p12, mP h a0 11 = some p12 ∧ (Ek 12 0 [some (.ref p2), some (.int a1), some (.int 2), some (.int (mI h p9 (((((a1 * (mI h p2 0)) + (((mI h a0 2) + a1) - ((mI h a0 2) + a1) / (mI h p4 0) * (mI h p4 0))) * 3) + 0).toNatClampNeg))), none, none] [] h (fun r h15 => ∃ x16 : Int32, r = some (.int x16) ∧ ((mTg h15 p12 = 3) ∧ (∃ p18, mP h15 p12 0 = some p18 ∧ ((mTg h15 p18 = 20 ∧ ¬ (mI h a0 2) < 0 ∧ ((mI h a0 2).toNatClampNeg) < mLn h15 p18) ∧ (∀ h20, h20 = wI h15 p18 ((mI h a0 2).toNatClampNeg) (mI h p9 (((((a1 * (mI h p2 0)) + (((mI h a0 2) + a1) - ((mI h a0 2) + a1) / (mI h p4 0) * (mI h p4 0))) * 3) + 0).toNatClampNeg)) → (∃ p22, mP h15 p12 1 = some p22 ∧ ((mTg h15 p22 = 20 ∧ ¬ (mI h a0 2) < 0 ∧ ((mI h a0 2).toNatClampNeg) < mLn h15 p22) ∧ (∀ h24, h24 = wI h20 p22 ((mI h a0 2).toNatClampNeg) a1 → (∃ p26, mP h15 p12 2 = some p26 ∧ ((mTg h15 p26 = 20 ∧ ¬ (mI h a0 2) < 0 ∧ ((mI h a0 2).toNatClampNeg) < mLn h15 p26) ∧ (∀ h28, h28 = wI h24 p26 ((mI h a0 2).toNatClampNeg) x16 → ((mTg h15 a0 = 7) ∧ (Ek 48 0 [some (.ref a0), none] [] h28 (fun r h31 => r = none ∧ (K none h31))))))))))))))))))))))))) : Ek 47 0 [some (.ref a0), some (.int a1), none] [] h K := by
  have c1 := H.1
  refine Ek.callT 2 (fun n => rfl) c1 ?_
  replace H := H.2
  refine Ek.chk 2 (fun n => rfl) c1 ?_
  obtain ⟨p2, e3, H⟩ := H
  show Ek _ _ _ (va_rf (mP h a0 12) :: _) _ _
  rw [e3]
  refine Ek.chk 3 (fun n => rfl) c1 ?_
  obtain ⟨p4, e5, H⟩ := H
  show Ek _ _ _ (va_rf (mP h a0 1) :: _) _ _
  rw [e5]
  refine Ek.chk 2 (fun n => rfl) c1 ?_
  have c6 := H.1
  refine Ek.callT 1 (fun n => rfl) c6 ?_
  replace H := H.2
  refine Ek.chk 5 (fun n => rfl) c6 ?_
  have c7 := H.1
  refine Ek.nch 1 (fun n => rfl) c7 ?_
  replace H := H.2
  refine Ek.ret 1 (fun n => rfl) ?_
  have c8 := H.1
  refine Ek.callT 1 (fun n => rfl) c8 ?_
  replace H := H.2
  refine Ek.chk 2 (fun n => rfl) c8 ?_
  obtain ⟨p9, e10, H⟩ := H
  show Ek _ _ _ (va_rf (mP h p2 1) :: _) _ _
  rw [e10]
  refine Ek.chk 3 (fun n => rfl) c8 ?_
  have c11 := H.1
  refine Ek.chk 8 (fun n => rfl) c11 ?_
  replace H := H.2
  refine Ek.ret 1 (fun n => rfl) ?_
  refine Ek.ret 1 (fun n => rfl) ?_
  refine Ek.chk 3 (fun n => rfl) c1 ?_
  obtain ⟨p12, e13, H⟩ := H
  show Ek _ _ _ (va_rf (mP h a0 11) :: _) _ _
  rw [e13]
  refine Ek.chk 2 (fun n => rfl) c1 ?_
  refine Ek.chk 4 (fun n => rfl) c1 ?_
  show Ek _ _ _ (va_rf (mP h a0 12) :: _) _ _
  rw [e3]
  refine Ek.callT 3 (fun n => rfl) c8 ?_
  refine Ek.mono H ?_
  rintro _ h15 ⟨x16, rfl, H⟩
  have c17 := H.1
  refine Ek.callT 0 (fun n => rfl) c17 ?_
  replace H := H.2
  refine Ek.chk 2 (fun n => rfl) c17 ?_
  obtain ⟨p18, e19, H⟩ := H
  show Ek _ _ _ (va_rf (mP h15 p12 0) :: _) _ _
  rw [e19]
  have c21 := H.1
  refine Ek.chk 3 (fun n => rfl) c21 ?_
  replace H := H.2
  let h20 : mH := wI h15 p18 ((mI h a0 2).toNatClampNeg) (mI h p9 (((((a1 * (mI h p2 0)) + (((mI h a0 2) + a1) - ((mI h a0 2) + a1) / (mI h p4 0) * (mI h p4 0))) * 3) + 0).toNatClampNeg))
  replace H := H h20 rfl
  show Ek _ _ _ _ h20 _
  refine Ek.chk 2 (fun n => rfl) c17 ?_
  obtain ⟨p22, e23, H⟩ := H
  show Ek _ _ _ (va_rf (mP h15 p12 1) :: _) _ _
  rw [e23]
  have c25 := H.1
  refine Ek.chk 3 (fun n => rfl) c25 ?_
  replace H := H.2
  let h24 : mH := wI h20 p22 ((mI h a0 2).toNatClampNeg) a1
  replace H := H h24 rfl
  show Ek _ _ _ _ h24 _
  refine Ek.chk 2 (fun n => rfl) c17 ?_
  obtain ⟨p26, e27, H⟩ := H
  show Ek _ _ _ (va_rf (mP h15 p12 2) :: _) _ _
  rw [e27]
  have c29 := H.1
  refine Ek.chk 3 (fun n => rfl) c29 ?_
  replace H := H.2
  let h28 : mH := wI h24 p26 ((mI h a0 2).toNatClampNeg) x16
  replace H := H h28 rfl
  show Ek _ _ _ _ h28 _
  refine Ek.ret 1 (fun n => rfl) ?_
  have c30 := H.1
  refine Ek.callT 1 (fun n => rfl) c30 ?_
  replace H := H.2
  refine Ek.mono H ?_
  rintro _ h31 ⟨rfl, H⟩
  exact Ek.ret 1 (fun n => rfl) H

/-- RoundVotes$Node.goToNextHeight()V, from 0 -/
set_option maxRecDepth 4000 in
theorem T48 {a0 : Nat} {h : mH} {K : Option Value → mH → Prop} (H : (mTg h a0 = 7) ∧ (∀ h2, h2 = wI h a0 2 ((mI h a0 2) + 1) → (∃ p3, mP h a0 5 = some p3 ∧ ((mTg h p3 = 2) ∧ (∀ h6, h6 = wI h2 p3 0 0 → (∀ h7, h7 = wI h6 p3 1 (-1) → (∃ p8, mP h a0 6 = some p8 ∧ ((mTg h p8 = 2) ∧ (∀ h11, h11 = wI h7 p8 0 0 → (∀ h12, h12 = wI h11 p8 1 (-1) → (∃ p13, mP h a0 12 = some p13 ∧ ((mTg h p13 = 1) ∧ (Ek 13 0 [some (.ref p13), none, none] [] h12 (fun r h16 => r = none ∧ ((mTg h16 a0 = 7) ∧ (∃ p18, mP h16 a0 13 = some p18 ∧ (∀ h20, h20 = wP h16 a0 12 (some p18) → (∀ h21, h21 = wP h20 a0 13 (some p13) → (∃ p22, mP h21 a0 14 = some p22 ∧ ((mTg h16 p22 = 1) ∧ (Ek 13 0 [some (.ref p22), none, none] [] h21 (fun r h25 => r = none ∧ ((mTg h25 a0 = 7) ∧ (∃ p27, mP h25 a0 15 = some p27 ∧ ((mTg h25 p27 = 8) ∧ (∃ p30, mP h25 p27 2 = some p30 ∧ ((mTg h25 p30 = 1) ∧ (Ek 13 0 [some (.ref p30), none, none] [] h25 (fun r h33 => r = none ∧ (K none h33)))))))))))))))))))))))))))))) : Ek 48 0 [some (.ref a0), none] [] h K := by
  have c1 := H.1
  refine Ek.chk 3 (fun n => rfl) c1 ?_
  replace H := H.2
  refine Ek.chk 3 (fun n => rfl) c1 ?_
  let h2 : mH := wI h a0 2 ((mI h a0 2) + 1)
  replace H := H h2 rfl
  show Ek _ _ _ _ h2 _
  refine Ek.chk 2 (fun n => rfl) c1 ?_
  obtain ⟨p3, e4, H⟩ := H
  show Ek _ _ _ (va_rf (mP h a0 5) :: _) _ _
  rw [e4]
  have c5 := H.1
  refine Ek.callT 2 (fun n => rfl) c5 ?_
  replace H := H.2
  refine Ek.chk 3 (fun n => rfl) c5 ?_
  let h6 : mH := wI h2 p3 0 0
  replace H := H h6 rfl
  show Ek _ _ _ _ h6 _
  refine Ek.chk 3 (fun n => rfl) c5 ?_
  let h7 : mH := wI h6 p3 1 (-1)
  replace H := H h7 rfl
  show Ek _ _ _ _ h7 _
  refine Ek.ret 1 (fun n => rfl) ?_
  refine Ek.chk 2 (fun n => rfl) c1 ?_
  obtain ⟨p8, e9, H⟩ := H
  show Ek _ _ _ (va_rf (mP h a0 6) :: _) _ _
  rw [e9]
  have c10 := H.1
  refine Ek.callT 2 (fun n => rfl) c10 ?_
  replace H := H.2
  refine Ek.chk 3 (fun n => rfl) c10 ?_
  let h11 : mH := wI h7 p8 0 0
  replace H := H h11 rfl
  show Ek _ _ _ _ h11 _
  refine Ek.chk 3 (fun n => rfl) c10 ?_
  let h12 : mH := wI h11 p8 1 (-1)
  replace H := H h12 rfl
  show Ek _ _ _ _ h12 _
  refine Ek.ret 1 (fun n => rfl) ?_
  refine Ek.chk 2 (fun n => rfl) c1 ?_
  obtain ⟨p13, e14, H⟩ := H
  show Ek _ _ _ (va_rf (mP h a0 12) :: _) _ _
  rw [e14]
  have c15 := H.1
  refine Ek.callT 2 (fun n => rfl) c15 ?_
  replace H := H.2
  refine Ek.mono H ?_
  rintro _ h16 ⟨rfl, H⟩
  have c17 := H.1
  refine Ek.chk 3 (fun n => rfl) c17 ?_
  replace H := H.2
  obtain ⟨p18, e19, H⟩ := H
  show Ek _ _ _ (va_rf (mP h16 a0 13) :: _) _ _
  rw [e19]
  refine Ek.chk 1 (fun n => rfl) c17 ?_
  let h20 : mH := wP h16 a0 12 (some p18)
  replace H := H h20 rfl
  show Ek _ _ _ _ h20 _
  refine Ek.chk 3 (fun n => rfl) c17 ?_
  let h21 : mH := wP h20 a0 13 (some p13)
  replace H := H h21 rfl
  show Ek _ _ _ _ h21 _
  refine Ek.chk 2 (fun n => rfl) c17 ?_
  obtain ⟨p22, e23, H⟩ := H
  show Ek _ _ _ (va_rf (mP h21 a0 14) :: _) _ _
  rw [e23]
  have c24 := H.1
  refine Ek.callT 0 (fun n => rfl) c24 ?_
  replace H := H.2
  refine Ek.mono H ?_
  rintro _ h25 ⟨rfl, H⟩
  have c26 := H.1
  refine Ek.chk 2 (fun n => rfl) c26 ?_
  replace H := H.2
  obtain ⟨p27, e28, H⟩ := H
  show Ek _ _ _ (va_rf (mP h25 a0 15) :: _) _ _
  rw [e28]
  have c29 := H.1
  refine Ek.chk 1 (fun n => rfl) c29 ?_
  replace H := H.2
  obtain ⟨p30, e31, H⟩ := H
  show Ek _ _ _ (va_rf (mP h25 p27 2) :: _) _ _
  rw [e31]
  have c32 := H.1
  refine Ek.callT 0 (fun n => rfl) c32 ?_
  replace H := H.2
  refine Ek.mono H ?_
  rintro _ h33 ⟨rfl, H⟩
  exact Ek.ret 1 (fun n => rfl) H

/-- RoundVotes$Node.roundToJoin()I, from 0 -/
set_option maxRecDepth 4000 in
theorem T49 {a0 : Nat} {h : mH} {K : Option Value → mH → Prop} (H : (mTg h a0 = 7) ∧ (∃ p2, mP h a0 12 = some p2 ∧ ((mTg h p2 = 1) ∧ (Ek 49 8 [some (.ref a0), some (.int (mI h p2 3)), none] [] h K)))) : Ek 49 0 [some (.ref a0), none, none] [] h K := by
  have c1 := H.1
  refine Ek.chk 2 (fun n => rfl) c1 ?_
  replace H := H.2
  obtain ⟨p2, e3, H⟩ := H
  show Ek _ _ _ (va_rf (mP h a0 12) :: _) _ _
  rw [e3]
  have c4 := H.1
  refine Ek.chk 1 (fun n => rfl) c4 ?_
  replace H := H.2
  exact Ek.go 1 (fun n => rfl) H

/-- RoundVotes$Node.roundToJoin()I, from 8 -/
set_option maxRecDepth 4000 in
theorem T49_8 {v0 : Nat} {v1 : Int32} {h : mH} {K : Option Value → mH → Prop} (H : (mTg h v0 = 7) ∧ ((v1 ≤ (mI h v0 3) → (K (some (.int (-1))) h)) ∧ (¬ v1 ≤ (mI h v0 3) → (∃ p2, mP h v0 12 = some p2 ∧ ((mTg h p2 = 1) ∧ (Ek 14 0 [some (.ref p2), some (.int v1), some (.int 0), none, none] [] h (fun r h5 => ∃ x6 : Int32, r = some (.int x6) ∧ ((mTg h5 v0 = 7) ∧ (∃ p8, mP h5 v0 12 = some p8 ∧ ((mTg h5 p8 = 1) ∧ (Ek 14 0 [some (.ref p8), some (.int v1), some (.int 1), none, none] [] h5 (fun r h11 => ∃ x12 : Int32, r = some (.int x12) ∧ ((mTg h11 v0 = 7) ∧ (∃ p14, mP h11 v0 12 = some p14 ∧ ((mTg h11 p14 = 1) ∧ (Ek 14 0 [some (.ref p14), some (.int v1), some (.int 2), none, none] [] h11 (fun r h17 => ∃ x18 : Int32, r = some (.int x18) ∧ ((mTg h17 v0 = 7) ∧ (Ek 50 0 [some (.ref v0), some (.int ((x6 ||| x12) ||| x18))] [] h17 (fun r h20 => ∃ x21 : Int32, r = some (.int x21) ∧ ((x21 = 0 → (Ek 49 8 [some (.ref v0), some (.int (v1 + (-1))), some (.int ((x6 ||| x12) ||| x18))] [] h20 K)) ∧ (¬ x21 = 0 → (K (some (.int v1)) h20))))))))))))))))))))))) : Ek 49 8 [some (.ref v0), some (.int v1), none] [] h K := by
  have c1 := H.1
  refine Ek.chk 3 (fun n => rfl) c1 ?_
  replace H := H.2
  refine Ek.br 1 (fun n => rfl) (fun hc => ?_) (fun hc => ?_)
  · replace H := H.1 hc
    exact Ek.ret 2 (fun n => rfl) H
  · replace H := H.2 hc
    refine Ek.chk 2 (fun n => rfl) c1 ?_
    obtain ⟨p2, e3, H⟩ := H
    show Ek _ _ _ (va_rf (mP h v0 12) :: _) _ _
    rw [e3]
    have c4 := H.1
    refine Ek.callT 2 (fun n => rfl) c4 ?_
    replace H := H.2
    refine Ek.mono H ?_
    rintro _ h5 ⟨x6, rfl, H⟩
    have c7 := H.1
    refine Ek.chk 2 (fun n => rfl) c7 ?_
    replace H := H.2
    obtain ⟨p8, e9, H⟩ := H
    show Ek _ _ _ (va_rf (mP h5 v0 12) :: _) _ _
    rw [e9]
    have c10 := H.1
    refine Ek.callT 2 (fun n => rfl) c10 ?_
    replace H := H.2
    refine Ek.mono H ?_
    rintro _ h11 ⟨x12, rfl, H⟩
    have c13 := H.1
    refine Ek.chk 3 (fun n => rfl) c13 ?_
    replace H := H.2
    obtain ⟨p14, e15, H⟩ := H
    show Ek _ _ _ (va_rf (mP h11 v0 12) :: _) _ _
    rw [e15]
    have c16 := H.1
    refine Ek.callT 2 (fun n => rfl) c16 ?_
    replace H := H.2
    refine Ek.mono H ?_
    rintro _ h17 ⟨x18, rfl, H⟩
    have c19 := H.1
    refine Ek.callT 4 (fun n => rfl) c19 ?_
    replace H := H.2
    refine Ek.mono H ?_
    rintro _ h20 ⟨x21, rfl, H⟩
    refine Ek.br 1 (fun n => rfl) (fun hc => ?_) (fun hc => ?_)
    · replace H := H.1 hc
      exact Ek.go 2 (fun n => rfl) H
    · replace H := H.2 hc
      exact Ek.ret 2 (fun n => rfl) H

/-- RoundVotes$Node.areSome(I)Z, from 0 -/
set_option maxRecDepth 4000 in
theorem T50 {a0 : Nat} {a1 : Int32} {h : mH} {K : Option Value → mH → Prop} (H : (mTg h a0 = 7) ∧ (∃ p2, mP h a0 1 = some p2 ∧ ((mTg h p2 = 9) ∧ (Ek 30 0 [some (.ref p2), some (.int a1), some (.int (mI h a0 2)), none, none] [] h (fun r h5 => ∃ x6 : Int32, r = some (.int x6) ∧ ((mTg h5 a0 = 7) ∧ (∃ p8, mP h5 a0 1 = some p8 ∧ ((mTg h5 p8 = 9) ∧ (∃ p11, mP h5 p8 3 = some p11 ∧ (((mTg h5 p11 = 20 ∨ mTg h5 p11 = 30) ∧ ¬ (mI h5 a0 2) < 0 ∧ ((mI h5 a0 2).toNatClampNeg) < mLn h5 p11) ∧ (((3 * x6) ≤ (mI h5 p11 ((mI h5 a0 2).toNatClampNeg)) → (K (some (.int 0)) h5)) ∧ (¬ (3 * x6) ≤ (mI h5 p11 ((mI h5 a0 2).toNatClampNeg)) → (K (some (.int 1)) h5))))))))))))) : Ek 50 0 [some (.ref a0), some (.int a1)] [] h K := by
  have c1 := H.1
  refine Ek.chk 3 (fun n => rfl) c1 ?_
  replace H := H.2
  obtain ⟨p2, e3, H⟩ := H
  show Ek _ _ _ (va_rf (mP h a0 1) :: _) _ _
  rw [e3]
  refine Ek.chk 3 (fun n => rfl) c1 ?_
  have c4 := H.1
  refine Ek.callT 0 (fun n => rfl) c4 ?_
  replace H := H.2
  refine Ek.mono H ?_
  rintro _ h5 ⟨x6, rfl, H⟩
  have c7 := H.1
  refine Ek.chk 3 (fun n => rfl) c7 ?_
  replace H := H.2
  obtain ⟨p8, e9, H⟩ := H
  show Ek _ _ _ (va_rf (mP h5 a0 1) :: _) _ _
  rw [e9]
  have c10 := H.1
  refine Ek.chk 1 (fun n => rfl) c10 ?_
  replace H := H.2
  obtain ⟨p11, e12, H⟩ := H
  show Ek _ _ _ (va_rf (mP h5 p8 3) :: _) _ _
  rw [e12]
  refine Ek.chk 2 (fun n => rfl) c7 ?_
  have c13 := H.1
  refine Ek.chk 1 (fun n => rfl) c13 ?_
  replace H := H.2
  refine Ek.br 1 (fun n => rfl) (fun hc => ?_) (fun hc => ?_)
  · replace H := H.1 hc
    exact Ek.ret 2 (fun n => rfl) H
  · replace H := H.2 hc
    exact Ek.ret 3 (fun n => rfl) H

/-- RoundVotes$Node.answersProposal()Z, from 0 -/
set_option maxRecDepth 4000 in
theorem T51 {a0 : Nat} {h : mH} {K : Option Value → mH → Prop} (H : (mTg h a0 = 7) ∧ (∃ p2, mP h a0 12 = some p2 ∧ (∃ p4, mP h a0 1 = some p4 ∧ ((mTg h p4 = 9) ∧ ((¬ (mI h p4 0) = 0) ∧ ((mTg h p2 = 1) ∧ (∃ p9, mP h p2 1 = some p9 ∧ (((mTg h p9 = 20 ∨ mTg h p9 = 30) ∧ ¬ (((((mI h a0 3) * (mI h p2 0)) + (((mI h a0 2) + (mI h a0 3)) - ((mI h a0 2) + (mI h a0 3)) / (mI h p4 0) * (mI h p4 0))) * 3) + 0) < 0 ∧ ((((((mI h a0 3) * (mI h p2 0)) + (((mI h a0 2) + (mI h a0 3)) - ((mI h a0 2) + (mI h a0 3)) / (mI h p4 0) * (mI h p4 0))) * 3) + 0).toNatClampNeg) < mLn h p9) ∧ (((mI h a0 4) = 0 → (((mI h p9 ((((((mI h a0 3) * (mI h p2 0)) + (((mI h a0 2) + (mI h a0 3)) - ((mI h a0 2) + (mI h a0 3)) / (mI h p4 0) * (mI h p4 0))) * 3) + 0).toNatClampNeg)) = (-2) → (K (some (.int 0)) h)) ∧ (¬ (mI h p9 ((((((mI h a0 3) * (mI h p2 0)) + (((mI h a0 2) + (mI h a0 3)) - ((mI h a0 2) + (mI h a0 3)) / (mI h p4 0) * (mI h p4 0))) * 3) + 0).toNatClampNeg)) = (-2) → (∃ p13, mP h p2 2 = some p13 ∧ (((mTg h p13 = 20 ∨ mTg h p13 = 30) ∧ ¬ (mI h a0 3) < 0 ∧ ((mI h a0 3).toNatClampNeg) < mLn h p13) ∧ (((mI h p13 ((mI h a0 3).toNatClampNeg)) < (mI h a0 3) → (((mI h p13 ((mI h a0 3).toNatClampNeg)) ≤ (-1) → (Ek 52 0 [some (.ref a0), some (.int (mI h p9 ((((((mI h a0 3) * (mI h p2 0)) + (((mI h a0 2) + (mI h a0 3)) - ((mI h a0 2) + (mI h a0 3)) / (mI h p4 0) * (mI h p4 0))) * 3) + 0).toNatClampNeg))), some (.int (mI h p13 ((mI h a0 3).toNatClampNeg)))] [] h (fun r h16 => ∃ x17 : Int32, r = some (.int x17) ∧ ((x17 = 0 → ((mTg h16 a0 = 7) ∧ (Ek 40 0 [some (.ref a0), some (.int 1), some (.int 0), some (.int (-1)), none, none] [] h16 (fun r h19 => r = none ∧ (K (some (.int 1)) h19))))) ∧ (¬ x17 = 0 → ((mTg h16 a0 = 7) ∧ (Ek 40 0 [some (.ref a0), some (.int 1), some (.int (mI h p9 ((((((mI h a0 3) * (mI h p2 0)) + (((mI h a0 2) + (mI h a0 3)) - ((mI h a0 2) + (mI h a0 3)) / (mI h p4 0) * (mI h p4 0))) * 3) + 0).toNatClampNeg))), some (.int (-1)), none, none] [] h16 (fun r h21 => r = none ∧ (K (some (.int 1)) h21))))))))) ∧ (¬ (mI h p13 ((mI h a0 3).toNatClampNeg)) ≤ (-1) → (Ek 12 0 [some (.ref p2), some (.int (mI h p13 ((mI h a0 3).toNatClampNeg))), some (.int 1), some (.int (mI h p9 ((((((mI h a0 3) * (mI h p2 0)) + (((mI h a0 2) + (mI h a0 3)) - ((mI h a0 2) + (mI h a0 3)) / (mI h p4 0) * (mI h p4 0))) * 3) + 0).toNatClampNeg))), none, none] [] h (fun r h23 => ∃ x24 : Int32, r = some (.int x24) ∧ ((mTg h23 a0 = 7) ∧ (Ek 46 0 [some (.ref a0), some (.int x24)] [] h23 (fun r h26 => ∃ x27 : Int32, r = some (.int x27) ∧ ((x27 = 0 → (K (some (.int 0)) h26)) ∧ (¬ x27 = 0 → ((mTg h26 a0 = 7) ∧ (Ek 52 0 [some (.ref a0), some (.int (mI h p9 ((((((mI h a0 3) * (mI h p2 0)) + (((mI h a0 2) + (mI h a0 3)) - ((mI h a0 2) + (mI h a0 3)) / (mI h p4 0) * (mI h p4 0))) * 3) + 0).toNatClampNeg))), some (.int (mI h p13 ((mI h a0 3).toNatClampNeg)))] [] h26 (fun r h29 => ∃ x30 : Int32, r = some (.int x30) ∧ ((x30 = 0 → ((mTg h29 a0 = 7) ∧ (Ek 40 0 [some (.ref a0), some (.int 1), some (.int 0), some (.int (-1)), none, none] [] h29 (fun r h32 => r = none ∧ (K (some (.int 1)) h32))))) ∧ (¬ x30 = 0 → ((mTg h29 a0 = 7) ∧ (Ek 40 0 [some (.ref a0), some (.int 1), some (.int (mI h p9 ((((((mI h a0 3) * (mI h p2 0)) + (((mI h a0 2) + (mI h a0 3)) - ((mI h a0 2) + (mI h a0 3)) / (mI h p4 0) * (mI h p4 0))) * 3) + 0).toNatClampNeg))), some (.int (-1)), none, none] [] h29 (fun r h34 => r = none ∧ (K (some (.int 1)) h34))))))))))))))))))) ∧ (¬ (mI h p13 ((mI h a0 3).toNatClampNeg)) < (mI h a0 3) → (K (some (.int 0)) h)))))))) ∧ (¬ (mI h a0 4) = 0 → (K (some (.int 0)) h))))))))))) : Ek 51 0 [some (.ref a0), none, none] [] h K := by
  have c1 := H.1
  refine Ek.chk 3 (fun n => rfl) c1 ?_
  replace H := H.2
  refine Ek.callT 0 (fun n => rfl) c1 ?_
  refine Ek.chk 2 (fun n => rfl) c1 ?_
  obtain ⟨p2, e3, H⟩ := H
  show Ek _ _ _ (va_rf (mP h a0 12) :: _) _ _
  rw [e3]
  refine Ek.chk 3 (fun n => rfl) c1 ?_
  obtain ⟨p4, e5, H⟩ := H
  show Ek _ _ _ (va_rf (mP h a0 1) :: _) _ _
  rw [e5]
  refine Ek.chk 2 (fun n => rfl) c1 ?_
  have c6 := H.1
  refine Ek.callT 1 (fun n => rfl) c6 ?_
  replace H := H.2
  refine Ek.chk 5 (fun n => rfl) c6 ?_
  have c7 := H.1
  refine Ek.nch 1 (fun n => rfl) c7 ?_
  replace H := H.2
  refine Ek.ret 1 (fun n => rfl) ?_
  have c8 := H.1
  refine Ek.callT 1 (fun n => rfl) c8 ?_
  replace H := H.2
  refine Ek.chk 2 (fun n => rfl) c8 ?_
  obtain ⟨p9, e10, H⟩ := H
  show Ek _ _ _ (va_rf (mP h p2 1) :: _) _ _
  rw [e10]
  refine Ek.chk 3 (fun n => rfl) c8 ?_
  have c11 := H.1
  refine Ek.chk 8 (fun n => rfl) c11 ?_
  replace H := H.2
  refine Ek.ret 1 (fun n => rfl) ?_
  refine Ek.ret 1 (fun n => rfl) ?_
  refine Ek.chk 3 (fun n => rfl) c1 ?_
  refine Ek.br 1 (fun n => rfl) (fun hc => ?_) (fun hc => ?_)
  · replace H := H.1 hc
    refine Ek.br 3 (fun n => rfl) (fun hc => ?_) (fun hc => ?_)
    · replace H := H.1 hc
      exact Ek.ret 2 (fun n => rfl) H
    · replace H := H.2 hc
      refine Ek.chk 2 (fun n => rfl) c1 ?_
      show Ek _ _ _ (va_rf (mP h a0 12) :: _) _ _
      rw [e3]
      refine Ek.chk 2 (fun n => rfl) c1 ?_
      refine Ek.callT 0 (fun n => rfl) c8 ?_
      refine Ek.chk 2 (fun n => rfl) c8 ?_
      obtain ⟨p13, e14, H⟩ := H
      show Ek _ _ _ (va_rf (mP h p2 2) :: _) _ _
      rw [e14]
      have c15 := H.1
      refine Ek.chk 2 (fun n => rfl) c15 ?_
      replace H := H.2
      refine Ek.ret 1 (fun n => rfl) ?_
      refine Ek.chk 4 (fun n => rfl) c1 ?_
      refine Ek.br 1 (fun n => rfl) (fun hc => ?_) (fun hc => ?_)
      · replace H := H.1 hc
        refine Ek.br 3 (fun n => rfl) (fun hc => ?_) (fun hc => ?_)
        · replace H := H.1 hc
          refine Ek.callT 5 (fun n => rfl) c1 ?_
          refine Ek.mono H ?_
          rintro _ h16 ⟨x17, rfl, H⟩
          refine Ek.br 1 (fun n => rfl) (fun hc => ?_) (fun hc => ?_)
          · replace H := H.1 hc
            have c18 := H.1
            refine Ek.callT 2 (fun n => rfl) c18 ?_
            replace H := H.2
            refine Ek.mono H ?_
            rintro _ h19 ⟨rfl, H⟩
            exact Ek.ret 2 (fun n => rfl) H
          · replace H := H.2 hc
            have c20 := H.1
            refine Ek.callT 3 (fun n => rfl) c20 ?_
            replace H := H.2
            refine Ek.mono H ?_
            rintro _ h21 ⟨rfl, H⟩
            exact Ek.ret 2 (fun n => rfl) H
        · replace H := H.2 hc
          refine Ek.chk 3 (fun n => rfl) c1 ?_
          show Ek _ _ _ (va_rf (mP h a0 12) :: _) _ _
          rw [e3]
          refine Ek.callT 3 (fun n => rfl) c8 ?_
          refine Ek.mono H ?_
          rintro _ h23 ⟨x24, rfl, H⟩
          have c25 := H.1
          refine Ek.callT 0 (fun n => rfl) c25 ?_
          replace H := H.2
          refine Ek.mono H ?_
          rintro _ h26 ⟨x27, rfl, H⟩
          refine Ek.br 1 (fun n => rfl) (fun hc => ?_) (fun hc => ?_)
          · replace H := H.1 hc
            exact Ek.ret 2 (fun n => rfl) H
          · replace H := H.2 hc
            have c28 := H.1
            refine Ek.callT 5 (fun n => rfl) c28 ?_
            replace H := H.2
            refine Ek.mono H ?_
            rintro _ h29 ⟨x30, rfl, H⟩
            refine Ek.br 1 (fun n => rfl) (fun hc => ?_) (fun hc => ?_)
            · replace H := H.1 hc
              have c31 := H.1
              refine Ek.callT 2 (fun n => rfl) c31 ?_
              replace H := H.2
              refine Ek.mono H ?_
              rintro _ h32 ⟨rfl, H⟩
              exact Ek.ret 2 (fun n => rfl) H
            · replace H := H.2 hc
              have c33 := H.1
              refine Ek.callT 3 (fun n => rfl) c33 ?_
              replace H := H.2
              refine Ek.mono H ?_
              rintro _ h34 ⟨rfl, H⟩
              exact Ek.ret 2 (fun n => rfl) H
      · replace H := H.2 hc
        exact Ek.ret 2 (fun n => rfl) H
  · replace H := H.2 hc
    exact Ek.ret 2 (fun n => rfl) H

/-- RoundVotes$Node.lockAllows(II)Z, from 0 -/
set_option maxRecDepth 4000 in
theorem T52 {a0 : Nat} {a1 : Int32} {a2 : Int32} {h : mH} {K : Option Value → mH → Prop} (H : (mTg h a0 = 7) ∧ (((mI h a0 7) = 4 → (K (some (.int 1)) h)) ∧ (¬ (mI h a0 7) = 4 → (∃ p2, mP h a0 5 = some p2 ∧ ((mTg h p2 = 2) ∧ (((mI h p2 0) = 0 → (K (some (.int 1)) h)) ∧ (¬ (mI h p2 0) = 0 → (((mI h p2 0) = a1 → (K (some (.int 1)) h)) ∧ (¬ (mI h p2 0) = a1 → ((a2 ≤ (-1) → (K (some (.int 0)) h)) ∧ (¬ a2 ≤ (-1) → ((a2 < (mI h p2 1) → (K (some (.int 0)) h)) ∧ (¬ a2 < (mI h p2 1) → (K (some (.int 1)) h)))))))))))))) : Ek 52 0 [some (.ref a0), some (.int a1), some (.int a2)] [] h K := by
  have c1 := H.1
  refine Ek.chk 2 (fun n => rfl) c1 ?_
  replace H := H.2
  refine Ek.br 2 (fun n => rfl) (fun hc => ?_) (fun hc => ?_)
  · replace H := H.1 hc
    exact Ek.ret 2 (fun n => rfl) H
  · replace H := H.2 hc
    refine Ek.chk 2 (fun n => rfl) c1 ?_
    obtain ⟨p2, e3, H⟩ := H
    show Ek _ _ _ (va_rf (mP h a0 5) :: _) _ _
    rw [e3]
    have c4 := H.1
    refine Ek.callT 0 (fun n => rfl) c4 ?_
    replace H := H.2
    refine Ek.chk 2 (fun n => rfl) c4 ?_
    refine Ek.br 1 (fun n => rfl) (fun hc => ?_) (fun hc => ?_)
    · replace H := H.1 hc
      refine Ek.ret 3 (fun n => rfl) ?_
      exact Ek.ret 3 (fun n => rfl) H
    · replace H := H.2 hc
      refine Ek.ret 2 (fun n => rfl) ?_
      refine Ek.chk 3 (fun n => rfl) c1 ?_
      show Ek _ _ _ (va_rf (mP h a0 5) :: _) _ _
      rw [e3]
      refine Ek.chk 1 (fun n => rfl) c4 ?_
      refine Ek.br 2 (fun n => rfl) (fun hc => ?_) (fun hc => ?_)
      · replace H := H.1 hc
        exact Ek.ret 2 (fun n => rfl) H
      · replace H := H.2 hc
        refine Ek.br 3 (fun n => rfl) (fun hc => ?_) (fun hc => ?_)
        · replace H := H.1 hc
          exact Ek.ret 2 (fun n => rfl) H
        · replace H := H.2 hc
          refine Ek.chk 2 (fun n => rfl) c1 ?_
          show Ek _ _ _ (va_rf (mP h a0 5) :: _) _ _
          rw [e3]
          refine Ek.chk 1 (fun n => rfl) c4 ?_
          refine Ek.br 2 (fun n => rfl) (fun hc => ?_) (fun hc => ?_)
          · replace H := H.1 hc
            exact Ek.ret 2 (fun n => rfl) H
          · replace H := H.2 hc
            exact Ek.ret 3 (fun n => rfl) H

/-- RoundVotes$Node.locks()Z, from 0 -/
set_option maxRecDepth 4000 in
theorem T53 {a0 : Nat} {h : mH} {K : Option Value → mH → Prop} (H : (mTg h a0 = 7) ∧ (∃ p2, mP h a0 12 = some p2 ∧ (∃ p4, mP h a0 1 = some p4 ∧ ((mTg h p4 = 9) ∧ ((¬ (mI h p4 0) = 0) ∧ ((mTg h p2 = 1) ∧ (∃ p9, mP h p2 1 = some p9 ∧ (((mTg h p9 = 20 ∨ mTg h p9 = 30) ∧ ¬ (((((mI h a0 3) * (mI h p2 0)) + (((mI h a0 2) + (mI h a0 3)) - ((mI h a0 2) + (mI h a0 3)) / (mI h p4 0) * (mI h p4 0))) * 3) + 0) < 0 ∧ ((((((mI h a0 3) * (mI h p2 0)) + (((mI h a0 2) + (mI h a0 3)) - ((mI h a0 2) + (mI h a0 3)) / (mI h p4 0) * (mI h p4 0))) * 3) + 0).toNatClampNeg) < mLn h p9) ∧ (∃ p12, mP h a0 10 = some p12 ∧ ((mTg h p12 = 21 ∧ ¬ (0 : Int32) < 0 ∧ ((0 : Int32).toNatClampNeg) < mLn h p12) ∧ (((mI h p12 ((0 : Int32).toNatClampNeg)) = 0 → (((mI h a0 4) = 0 → (K (some (.int 0)) h)) ∧ (¬ (mI h a0 4) = 0 → (((mI h p9 ((((((mI h a0 3) * (mI h p2 0)) + (((mI h a0 2) + (mI h a0 3)) - ((mI h a0 2) + (mI h a0 3)) / (mI h p4 0) * (mI h p4 0))) * 3) + 0).toNatClampNeg)) = (-2) → (K (some (.int 0)) h)) ∧ (¬ (mI h p9 ((((((mI h a0 3) * (mI h p2 0)) + (((mI h a0 2) + (mI h a0 3)) - ((mI h a0 2) + (mI h a0 3)) / (mI h p4 0) * (mI h p4 0))) * 3) + 0).toNatClampNeg)) = (-2) → (Ek 12 0 [some (.ref p2), some (.int (mI h a0 3)), some (.int 1), some (.int (mI h p9 ((((((mI h a0 3) * (mI h p2 0)) + (((mI h a0 2) + (mI h a0 3)) - ((mI h a0 2) + (mI h a0 3)) / (mI h p4 0) * (mI h p4 0))) * 3) + 0).toNatClampNeg))), none, none] [] h (fun r h16 => ∃ x17 : Int32, r = some (.int x17) ∧ ((mTg h16 a0 = 7) ∧ (Ek 46 0 [some (.ref a0), some (.int x17)] [] h16 (fun r h19 => ∃ x20 : Int32, r = some (.int x20) ∧ ((x20 = 0 → (K (some (.int 0)) h19)) ∧ (¬ x20 = 0 → ((mTg h19 a0 = 7) ∧ (∃ p22, mP h19 a0 10 = some p22 ∧ ((mTg h19 p22 = 21 ∧ ((1 : Int32) = 0 ∨ (1 : Int32) = 1) ∧ ¬ (0 : Int32) < 0 ∧ ((0 : Int32).toNatClampNeg) < mLn h19 p22) ∧ (∀ h24, h24 = wI h19 p22 ((0 : Int32).toNatClampNeg) 1 → (((mI h24 a0 4) = 1 → (∃ p26, mP h19 a0 5 = some p26 ∧ ((mTg h19 p26 = 2) ∧ (∀ h29, h29 = wI h24 p26 0 (mI h p9 ((((((mI h a0 3) * (mI h p2 0)) + (((mI h a0 2) + (mI h a0 3)) - ((mI h a0 2) + (mI h a0 3)) / (mI h p4 0) * (mI h p4 0))) * 3) + 0).toNatClampNeg)) → (∀ h30, h30 = wI h29 p26 1 (mI h24 a0 3) → (Ek 40 0 [some (.ref a0), some (.int 2), some (.int (mI h p9 ((((((mI h a0 3) * (mI h p2 0)) + (((mI h a0 2) + (mI h a0 3)) - ((mI h a0 2) + (mI h a0 3)) / (mI h p4 0) * (mI h p4 0))) * 3) + 0).toNatClampNeg))), some (.int (-1)), none, none] [] h30 (fun r h31 => r = none ∧ ((mTg h31 a0 = 7) ∧ (∃ p33, mP h31 a0 6 = some p33 ∧ ((mTg h31 p33 = 2) ∧ (∀ h36, h36 = wI h31 p33 0 (mI h p9 ((((((mI h a0 3) * (mI h p2 0)) + (((mI h a0 2) + (mI h a0 3)) - ((mI h a0 2) + (mI h a0 3)) / (mI h p4 0) * (mI h p4 0))) * 3) + 0).toNatClampNeg)) → (∀ h37, h37 = wI h36 p33 1 (mI h31 a0 3) → (K (some (.int 1)) h37))))))))))))) ∧ (¬ (mI h24 a0 4) = 1 → (∃ p38, mP h19 a0 6 = some p38 ∧ ((mTg h19 p38 = 2) ∧ (∀ h41, h41 = wI h24 p38 0 (mI h p9 ((((((mI h a0 3) * (mI h p2 0)) + (((mI h a0 2) + (mI h a0 3)) - ((mI h a0 2) + (mI h a0 3)) / (mI h p4 0) * (mI h p4 0))) * 3) + 0).toNatClampNeg)) → (∀ h42, h42 = wI h41 p38 1 (mI h24 a0 3) → (K (some (.int 1)) h42))))))))))))))))))))))) ∧ (¬ (mI h p12 ((0 : Int32).toNatClampNeg)) = 0 → (K (some (.int 0)) h))))))))))))) : Ek 53 0 [some (.ref a0), none] [] h K := by
  have c1 := H.1
  refine Ek.chk 3 (fun n => rfl) c1 ?_
  replace H := H.2
  refine Ek.callT 0 (fun n => rfl) c1 ?_
  refine Ek.chk 2 (fun n => rfl) c1 ?_
  obtain ⟨p2, e3, H⟩ := H
  show Ek _ _ _ (va_rf (mP h a0 12) :: _) _ _
  rw [e3]
  refine Ek.chk 3 (fun n => rfl) c1 ?_
  obtain ⟨p4, e5, H⟩ := H
  show Ek _ _ _ (va_rf (mP h a0 1) :: _) _ _
  rw [e5]
  refine Ek.chk 2 (fun n => rfl) c1 ?_
  have c6 := H.1
  refine Ek.callT 1 (fun n => rfl) c6 ?_
  replace H := H.2
  refine Ek.chk 5 (fun n => rfl) c6 ?_
  have c7 := H.1
  refine Ek.nch 1 (fun n => rfl) c7 ?_
  replace H := H.2
  refine Ek.ret 1 (fun n => rfl) ?_
  have c8 := H.1
  refine Ek.callT 1 (fun n => rfl) c8 ?_
  replace H := H.2
  refine Ek.chk 2 (fun n => rfl) c8 ?_
  obtain ⟨p9, e10, H⟩ := H
  show Ek _ _ _ (va_rf (mP h p2 1) :: _) _ _
  rw [e10]
  refine Ek.chk 3 (fun n => rfl) c8 ?_
  have c11 := H.1
  refine Ek.chk 8 (fun n => rfl) c11 ?_
  replace H := H.2
  refine Ek.ret 1 (fun n => rfl) ?_
  refine Ek.ret 1 (fun n => rfl) ?_
  refine Ek.chk 3 (fun n => rfl) c1 ?_
  obtain ⟨p12, e13, H⟩ := H
  show Ek _ _ _ (va_rf (mP h a0 10) :: _) _ _
  rw [e13]
  have c14 := H.1
  refine Ek.chk 2 (fun n => rfl) c14 ?_
  replace H := H.2
  refine Ek.br 1 (fun n => rfl) (fun hc => ?_) (fun hc => ?_)
  · replace H := H.1 hc
    refine Ek.chk 2 (fun n => rfl) c1 ?_
    refine Ek.br 1 (fun n => rfl) (fun hc => ?_) (fun hc => ?_)
    · replace H := H.1 hc
      exact Ek.ret 2 (fun n => rfl) H
    · replace H := H.2 hc
      refine Ek.br 3 (fun n => rfl) (fun hc => ?_) (fun hc => ?_)
      · replace H := H.1 hc
        exact Ek.ret 2 (fun n => rfl) H
      · replace H := H.2 hc
        refine Ek.chk 3 (fun n => rfl) c1 ?_
        show Ek _ _ _ (va_rf (mP h a0 12) :: _) _ _
        rw [e3]
        refine Ek.chk 2 (fun n => rfl) c1 ?_
        refine Ek.callT 2 (fun n => rfl) c8 ?_
        refine Ek.mono H ?_
        rintro _ h16 ⟨x17, rfl, H⟩
        have c18 := H.1
        refine Ek.callT 0 (fun n => rfl) c18 ?_
        replace H := H.2
        refine Ek.mono H ?_
        rintro _ h19 ⟨x20, rfl, H⟩
        refine Ek.br 1 (fun n => rfl) (fun hc => ?_) (fun hc => ?_)
        · replace H := H.1 hc
          exact Ek.ret 2 (fun n => rfl) H
        · replace H := H.2 hc
          have c21 := H.1
          refine Ek.chk 2 (fun n => rfl) c21 ?_
          replace H := H.2
          obtain ⟨p22, e23, H⟩ := H
          show Ek _ _ _ (va_rf (mP h19 a0 10) :: _) _ _
          rw [e23]
          have c25 := H.1
          refine Ek.chk 3 (fun n => rfl) c25 ?_
          replace H := H.2
          let h24 : mH := wI h19 p22 ((0 : Int32).toNatClampNeg) 1
          replace H := H h24 rfl
          show Ek _ _ _ _ h24 _
          refine Ek.chk 2 (fun n => rfl) c21 ?_
          refine Ek.br 2 (fun n => rfl) (fun hc => ?_) (fun hc => ?_)
          · replace H := H.1 hc
            refine Ek.chk 2 (fun n => rfl) c21 ?_
            obtain ⟨p26, e27, H⟩ := H
            show Ek _ _ _ (va_rf (mP h19 a0 5) :: _) _ _
            rw [e27]
            refine Ek.chk 3 (fun n => rfl) c21 ?_
            have c28 := H.1
            refine Ek.callT 0 (fun n => rfl) c28 ?_
            replace H := H.2
            refine Ek.chk 3 (fun n => rfl) c28 ?_
            let h29 : mH := wI h24 p26 0 (mI h p9 ((((((mI h a0 3) * (mI h p2 0)) + (((mI h a0 2) + (mI h a0 3)) - ((mI h a0 2) + (mI h a0 3)) / (mI h p4 0) * (mI h p4 0))) * 3) + 0).toNatClampNeg))
            replace H := H h29 rfl
            show Ek _ _ _ _ h29 _
            refine Ek.chk 3 (fun n => rfl) c28 ?_
            let h30 : mH := wI h29 p26 1 (mI h24 a0 3)
            replace H := H h30 rfl
            show Ek _ _ _ _ h30 _
            refine Ek.ret 1 (fun n => rfl) ?_
            refine Ek.callT 4 (fun n => rfl) c21 ?_
            refine Ek.mono H ?_
            rintro _ h31 ⟨rfl, H⟩
            have c32 := H.1
            refine Ek.chk 2 (fun n => rfl) c32 ?_
            replace H := H.2
            obtain ⟨p33, e34, H⟩ := H
            show Ek _ _ _ (va_rf (mP h31 a0 6) :: _) _ _
            rw [e34]
            refine Ek.chk 3 (fun n => rfl) c32 ?_
            have c35 := H.1
            refine Ek.callT 0 (fun n => rfl) c35 ?_
            replace H := H.2
            refine Ek.chk 3 (fun n => rfl) c35 ?_
            let h36 : mH := wI h31 p33 0 (mI h p9 ((((((mI h a0 3) * (mI h p2 0)) + (((mI h a0 2) + (mI h a0 3)) - ((mI h a0 2) + (mI h a0 3)) / (mI h p4 0) * (mI h p4 0))) * 3) + 0).toNatClampNeg))
            replace H := H h36 rfl
            show Ek _ _ _ _ h36 _
            refine Ek.chk 3 (fun n => rfl) c35 ?_
            let h37 : mH := wI h36 p33 1 (mI h31 a0 3)
            replace H := H h37 rfl
            show Ek _ _ _ _ h37 _
            refine Ek.ret 1 (fun n => rfl) ?_
            exact Ek.ret 2 (fun n => rfl) H
          · replace H := H.2 hc
            refine Ek.chk 2 (fun n => rfl) c21 ?_
            obtain ⟨p38, e39, H⟩ := H
            show Ek _ _ _ (va_rf (mP h19 a0 6) :: _) _ _
            rw [e39]
            refine Ek.chk 3 (fun n => rfl) c21 ?_
            have c40 := H.1
            refine Ek.callT 0 (fun n => rfl) c40 ?_
            replace H := H.2
            refine Ek.chk 3 (fun n => rfl) c40 ?_
            let h41 : mH := wI h24 p38 0 (mI h p9 ((((((mI h a0 3) * (mI h p2 0)) + (((mI h a0 2) + (mI h a0 3)) - ((mI h a0 2) + (mI h a0 3)) / (mI h p4 0) * (mI h p4 0))) * 3) + 0).toNatClampNeg))
            replace H := H h41 rfl
            show Ek _ _ _ _ h41 _
            refine Ek.chk 3 (fun n => rfl) c40 ?_
            let h42 : mH := wI h41 p38 1 (mI h24 a0 3)
            replace H := H h42 rfl
            show Ek _ _ _ _ h42 _
            refine Ek.ret 1 (fun n => rfl) ?_
            exact Ek.ret 2 (fun n => rfl) H
  · replace H := H.2 hc
    exact Ek.ret 2 (fun n => rfl) H

/-- RoundVotes$Node.givesUpValue()Z, from 0 -/
set_option maxRecDepth 4000 in
theorem T54 {a0 : Nat} {h : mH} {K : Option Value → mH → Prop} (H : (mTg h a0 = 7) ∧ (((mI h a0 4) = 1 → (∃ p2, mP h a0 12 = some p2 ∧ ((mTg h p2 = 1) ∧ (Ek 12 0 [some (.ref p2), some (.int (mI h a0 3)), some (.int 1), some (.int 0), none, none] [] h (fun r h5 => ∃ x6 : Int32, r = some (.int x6) ∧ ((mTg h5 a0 = 7) ∧ (Ek 46 0 [some (.ref a0), some (.int x6)] [] h5 (fun r h8 => ∃ x9 : Int32, r = some (.int x9) ∧ ((x9 = 0 → (K (some (.int 0)) h8)) ∧ (¬ x9 = 0 → ((mTg h8 a0 = 7) ∧ (Ek 40 0 [some (.ref a0), some (.int 2), some (.int 0), some (.int (-1)), none, none] [] h8 (fun r h11 => r = none ∧ (K (some (.int 1)) h11)))))))))))))) ∧ (¬ (mI h a0 4) = 1 → (K (some (.int 0)) h)))) : Ek 54 0 [some (.ref a0)] [] h K := by
  have c1 := H.1
  refine Ek.chk 2 (fun n => rfl) c1 ?_
  replace H := H.2
  refine Ek.br 2 (fun n => rfl) (fun hc => ?_) (fun hc => ?_)
  · replace H := H.1 hc
    refine Ek.chk 3 (fun n => rfl) c1 ?_
    obtain ⟨p2, e3, H⟩ := H
    show Ek _ _ _ (va_rf (mP h a0 12) :: _) _ _
    rw [e3]
    refine Ek.chk 2 (fun n => rfl) c1 ?_
    have c4 := H.1
    refine Ek.callT 2 (fun n => rfl) c4 ?_
    replace H := H.2
    refine Ek.mono H ?_
    rintro _ h5 ⟨x6, rfl, H⟩
    have c7 := H.1
    refine Ek.callT 0 (fun n => rfl) c7 ?_
    replace H := H.2
    refine Ek.mono H ?_
    rintro _ h8 ⟨x9, rfl, H⟩
    refine Ek.br 1 (fun n => rfl) (fun hc => ?_) (fun hc => ?_)
    · replace H := H.1 hc
      exact Ek.ret 2 (fun n => rfl) H
    · replace H := H.2 hc
      have c10 := H.1
      refine Ek.callT 4 (fun n => rfl) c10 ?_
      replace H := H.2
      refine Ek.mono H ?_
      rintro _ h11 ⟨rfl, H⟩
      exact Ek.ret 2 (fun n => rfl) H
  · replace H := H.2 hc
    exact Ek.ret 2 (fun n => rfl) H

/-- RoundVotes$Node.waitsForPrevotes(I)Z, from 0 -/
set_option maxRecDepth 4000 in
theorem T55 {a0 : Nat} {a1 : Int32} {h : mH} {K : Option Value → mH → Prop} (H : (mTg h a0 = 7) ∧ (∃ p2, mP h a0 10 = some p2 ∧ ((mTg h p2 = 21 ∧ ¬ (1 : Int32) < 0 ∧ ((1 : Int32).toNatClampNeg) < mLn h p2) ∧ (((mI h p2 ((1 : Int32).toNatClampNeg)) = 0 → (((mI h a0 4) = 1 → (∃ p5, mP h a0 12 = some p5 ∧ ((mTg h p5 = 1) ∧ (Ek 14 0 [some (.ref p5), some (.int (mI h a0 3)), some (.int 1), none, none] [] h (fun r h8 => ∃ x9 : Int32, r = some (.int x9) ∧ ((mTg h8 a0 = 7) ∧ (Ek 46 0 [some (.ref a0), some (.int x9)] [] h8 (fun r h11 => ∃ x12 : Int32, r = some (.int x12) ∧ ((x12 = 0 → (K (some (.int 0)) h11)) ∧ (¬ x12 = 0 → ((mTg h11 a0 = 7) ∧ (∃ p14, mP h11 a0 10 = some p14 ∧ ((mTg h11 p14 = 21 ∧ ((1 : Int32) = 0 ∨ (1 : Int32) = 1) ∧ ¬ (1 : Int32) < 0 ∧ ((1 : Int32).toNatClampNeg) < mLn h11 p14) ∧ (∀ h16, h16 = wI h11 p14 ((1 : Int32).toNatClampNeg) 1 → (∃ p18, mP h11 a0 9 = some p18 ∧ ((mTg h11 p18 = 20 ∧ ¬ (1 : Int32) < 0 ∧ ((1 : Int32).toNatClampNeg) < mLn h11 p18) ∧ (∀ h20, h20 = wI h16 p18 ((1 : Int32).toNatClampNeg) ((a1 + 3) + (mI h16 a0 3)) → (K (some (.int 1)) h20)))))))))))))))))) ∧ (¬ (mI h a0 4) = 1 → (K (some (.int 0)) h)))) ∧ (¬ (mI h p2 ((1 : Int32).toNatClampNeg)) = 0 → (K (some (.int 0)) h)))))) : Ek 55 0 [some (.ref a0), some (.int a1)] [] h K := by
  have c1 := H.1
  refine Ek.chk 2 (fun n => rfl) c1 ?_
  replace H := H.2
  obtain ⟨p2, e3, H⟩ := H
  show Ek _ _ _ (va_rf (mP h a0 10) :: _) _ _
  rw [e3]
  have c4 := H.1
  refine Ek.chk 2 (fun n => rfl) c4 ?_
  replace H := H.2
  refine Ek.br 1 (fun n => rfl) (fun hc => ?_) (fun hc => ?_)
  · replace H := H.1 hc
    refine Ek.chk 2 (fun n => rfl) c1 ?_
    refine Ek.br 2 (fun n => rfl) (fun hc => ?_) (fun hc => ?_)
    · replace H := H.1 hc
      refine Ek.chk 3 (fun n => rfl) c1 ?_
      obtain ⟨p5, e6, H⟩ := H
      show Ek _ _ _ (va_rf (mP h a0 12) :: _) _ _
      rw [e6]
      refine Ek.chk 2 (fun n => rfl) c1 ?_
      have c7 := H.1
      refine Ek.callT 1 (fun n => rfl) c7 ?_
      replace H := H.2
      refine Ek.mono H ?_
      rintro _ h8 ⟨x9, rfl, H⟩
      have c10 := H.1
      refine Ek.callT 0 (fun n => rfl) c10 ?_
      replace H := H.2
      refine Ek.mono H ?_
      rintro _ h11 ⟨x12, rfl, H⟩
      refine Ek.br 1 (fun n => rfl) (fun hc => ?_) (fun hc => ?_)
      · replace H := H.1 hc
        exact Ek.ret 2 (fun n => rfl) H
      · replace H := H.2 hc
        have c13 := H.1
        refine Ek.chk 2 (fun n => rfl) c13 ?_
        replace H := H.2
        obtain ⟨p14, e15, H⟩ := H
        show Ek _ _ _ (va_rf (mP h11 a0 10) :: _) _ _
        rw [e15]
        have c17 := H.1
        refine Ek.chk 3 (fun n => rfl) c17 ?_
        replace H := H.2
        let h16 : mH := wI h11 p14 ((1 : Int32).toNatClampNeg) 1
        replace H := H h16 rfl
        show Ek _ _ _ _ h16 _
        refine Ek.chk 2 (fun n => rfl) c13 ?_
        obtain ⟨p18, e19, H⟩ := H
        show Ek _ _ _ (va_rf (mP h11 a0 9) :: _) _ _
        rw [e19]
        refine Ek.chk 6 (fun n => rfl) c13 ?_
        have c21 := H.1
        refine Ek.chk 2 (fun n => rfl) c21 ?_
        replace H := H.2
        let h20 : mH := wI h16 p18 ((1 : Int32).toNatClampNeg) ((a1 + 3) + (mI h16 a0 3))
        replace H := H h20 rfl
        show Ek _ _ _ _ h20 _
        exact Ek.ret 2 (fun n => rfl) H
    · replace H := H.2 hc
      exact Ek.ret 2 (fun n => rfl) H
  · replace H := H.2 hc
    exact Ek.ret 2 (fun n => rfl) H

/-- RoundVotes$Node.waitsForPrecommits(I)Z, from 0 -/
set_option maxRecDepth 4000 in
theorem T56 {a0 : Nat} {a1 : Int32} {h : mH} {K : Option Value → mH → Prop} (H : (mTg h a0 = 7) ∧ (∃ p2, mP h a0 10 = some p2 ∧ ((mTg h p2 = 21 ∧ ¬ (2 : Int32) < 0 ∧ ((2 : Int32).toNatClampNeg) < mLn h p2) ∧ (((mI h p2 ((2 : Int32).toNatClampNeg)) = 0 → (∃ p5, mP h a0 12 = some p5 ∧ ((mTg h p5 = 1) ∧ (Ek 14 0 [some (.ref p5), some (.int (mI h a0 3)), some (.int 2), none, none] [] h (fun r h8 => ∃ x9 : Int32, r = some (.int x9) ∧ ((mTg h8 a0 = 7) ∧ (Ek 46 0 [some (.ref a0), some (.int x9)] [] h8 (fun r h11 => ∃ x12 : Int32, r = some (.int x12) ∧ ((x12 = 0 → (K (some (.int 0)) h11)) ∧ (¬ x12 = 0 → ((mTg h11 a0 = 7) ∧ (∃ p14, mP h11 a0 10 = some p14 ∧ ((mTg h11 p14 = 21 ∧ ((1 : Int32) = 0 ∨ (1 : Int32) = 1) ∧ ¬ (2 : Int32) < 0 ∧ ((2 : Int32).toNatClampNeg) < mLn h11 p14) ∧ (∀ h16, h16 = wI h11 p14 ((2 : Int32).toNatClampNeg) 1 → (∃ p18, mP h11 a0 9 = some p18 ∧ ((mTg h11 p18 = 20 ∧ ¬ (2 : Int32) < 0 ∧ ((2 : Int32).toNatClampNeg) < mLn h11 p18) ∧ (∀ h20, h20 = wI h16 p18 ((2 : Int32).toNatClampNeg) ((a1 + 3) + (mI h16 a0 3)) → (K (some (.int 1)) h20)))))))))))))))))) ∧ (¬ (mI h p2 ((2 : Int32).toNatClampNeg)) = 0 → (K (some (.int 0)) h)))))) : Ek 56 0 [some (.ref a0), some (.int a1)] [] h K := by
  have c1 := H.1
  refine Ek.chk 2 (fun n => rfl) c1 ?_
  replace H := H.2
  obtain ⟨p2, e3, H⟩ := H
  show Ek _ _ _ (va_rf (mP h a0 10) :: _) _ _
  rw [e3]
  have c4 := H.1
  refine Ek.chk 2 (fun n => rfl) c4 ?_
  replace H := H.2
  refine Ek.br 1 (fun n => rfl) (fun hc => ?_) (fun hc => ?_)
  · replace H := H.1 hc
    refine Ek.chk 3 (fun n => rfl) c1 ?_
    obtain ⟨p5, e6, H⟩ := H
    show Ek _ _ _ (va_rf (mP h a0 12) :: _) _ _
    rw [e6]
    refine Ek.chk 2 (fun n => rfl) c1 ?_
    have c7 := H.1
    refine Ek.callT 1 (fun n => rfl) c7 ?_
    replace H := H.2
    refine Ek.mono H ?_
    rintro _ h8 ⟨x9, rfl, H⟩
    have c10 := H.1
    refine Ek.callT 0 (fun n => rfl) c10 ?_
    replace H := H.2
    refine Ek.mono H ?_
    rintro _ h11 ⟨x12, rfl, H⟩
    refine Ek.br 1 (fun n => rfl) (fun hc => ?_) (fun hc => ?_)
    · replace H := H.1 hc
      exact Ek.ret 2 (fun n => rfl) H
    · replace H := H.2 hc
      have c13 := H.1
      refine Ek.chk 2 (fun n => rfl) c13 ?_
      replace H := H.2
      obtain ⟨p14, e15, H⟩ := H
      show Ek _ _ _ (va_rf (mP h11 a0 10) :: _) _ _
      rw [e15]
      have c17 := H.1
      refine Ek.chk 3 (fun n => rfl) c17 ?_
      replace H := H.2
      let h16 : mH := wI h11 p14 ((2 : Int32).toNatClampNeg) 1
      replace H := H h16 rfl
      show Ek _ _ _ _ h16 _
      refine Ek.chk 2 (fun n => rfl) c13 ?_
      obtain ⟨p18, e19, H⟩ := H
      show Ek _ _ _ (va_rf (mP h11 a0 9) :: _) _ _
      rw [e19]
      refine Ek.chk 6 (fun n => rfl) c13 ?_
      have c21 := H.1
      refine Ek.chk 2 (fun n => rfl) c21 ?_
      replace H := H.2
      let h20 : mH := wI h16 p18 ((2 : Int32).toNatClampNeg) ((a1 + 3) + (mI h16 a0 3))
      replace H := H h20 rfl
      show Ek _ _ _ _ h20 _
      exact Ek.ret 2 (fun n => rfl) H
  · replace H := H.2 hc
    exact Ek.ret 2 (fun n => rfl) H

/-- RoundVotes$Node.comeBack(I)V, from 0 -/
set_option maxRecDepth 4000 in
theorem T57 {a0 : Nat} {a1 : Int32} {h : mH} {K : Option Value → mH → Prop} (H : (mTg h a0 = 7) ∧ (∀ h1, h1 = wI h a0 8 0 → (∃ p3, mP h a0 12 = some p3 ∧ ((mTg h p3 = 1) ∧ (Ek 13 0 [some (.ref p3), none, none] [] h1 (fun r h6 => r = none ∧ ((mTg h6 a0 = 7) ∧ (∃ p8, mP h6 a0 13 = some p8 ∧ ((mTg h6 p8 = 1) ∧ (Ek 13 0 [some (.ref p8), none, none] [] h6 (fun r h11 => r = none ∧ ((mTg h11 a0 = 7) ∧ (∃ p13, mP h11 a0 14 = some p13 ∧ ((mTg h11 p13 = 1) ∧ (Ek 57 29 [some (.ref a0), some (.int a1), some (.int (mI h11 p13 3)), some (.int 0), none] [] h11 K))))))))))))))) : Ek 57 0 [some (.ref a0), some (.int a1), none, none, none] [] h K := by
  have c2 := H.1
  refine Ek.chk 3 (fun n => rfl) c2 ?_
  replace H := H.2
  let h1 : mH := wI h a0 8 0
  replace H := H h1 rfl
  show Ek _ _ _ _ h1 _
  refine Ek.chk 2 (fun n => rfl) c2 ?_
  obtain ⟨p3, e4, H⟩ := H
  show Ek _ _ _ (va_rf (mP h a0 12) :: _) _ _
  rw [e4]
  have c5 := H.1
  refine Ek.callT 0 (fun n => rfl) c5 ?_
  replace H := H.2
  refine Ek.mono H ?_
  rintro _ h6 ⟨rfl, H⟩
  have c7 := H.1
  refine Ek.chk 2 (fun n => rfl) c7 ?_
  replace H := H.2
  obtain ⟨p8, e9, H⟩ := H
  show Ek _ _ _ (va_rf (mP h6 a0 13) :: _) _ _
  rw [e9]
  have c10 := H.1
  refine Ek.callT 0 (fun n => rfl) c10 ?_
  replace H := H.2
  refine Ek.mono H ?_
  rintro _ h11 ⟨rfl, H⟩
  have c12 := H.1
  refine Ek.chk 2 (fun n => rfl) c12 ?_
  replace H := H.2
  obtain ⟨p13, e14, H⟩ := H
  show Ek _ _ _ (va_rf (mP h11 a0 14) :: _) _ _
  rw [e14]
  have c15 := H.1
  refine Ek.chk 1 (fun n => rfl) c15 ?_
  replace H := H.2
  exact Ek.go 3 (fun n => rfl) H

/-- RoundVotes$Node.comeBack(I)V, from 29 -/
set_option maxRecDepth 4000 in
theorem T57_29 {v0 : Nat} {v1 : Int32} {v2 : Int32} {v3 : Int32} {h : mH} {K : Option Value → mH → Prop} (H : (v2 < v3 → ((mTg h v0 = 7) ∧ (Ek 38 0 [some (.ref v0), some (.int (mI h v0 3)), some (.int v1), none] [] h (fun r h2 => r = none ∧ (K none h2))))) ∧ (¬ v2 < v3 → (Ek 57 37 [some (.ref v0), some (.int v1), some (.int v2), some (.int v3), some (.int 0)] [] h K))) : Ek 57 29 [some (.ref v0), some (.int v1), some (.int v2), some (.int v3), none] [] h K := by
  refine Ek.br 3 (fun n => rfl) (fun hc => ?_) (fun hc => ?_)
  · replace H := H.1 hc
    have c1 := H.1
    refine Ek.chk 3 (fun n => rfl) c1 ?_
    replace H := H.2
    refine Ek.callT 1 (fun n => rfl) c1 ?_
    refine Ek.mono H ?_
    rintro _ h2 ⟨rfl, H⟩
    exact Ek.ret 1 (fun n => rfl) H
  · replace H := H.2 hc
    exact Ek.go 2 (fun n => rfl) H

/-- RoundVotes$Node.comeBack(I)V, from 37 -/
set_option maxRecDepth 4000 in
theorem T57_37 {v0 : Nat} {v1 : Int32} {v2 : Int32} {v3 : Int32} {v4 : Int32} {h : mH} {K : Option Value → mH → Prop} (H : ((3 : Int32) ≤ v4 → (Ek 57 29 [some (.ref v0), some (.int v1), some (.int v2), some (.int (v3 + 1)), some (.int v4)] [] h K)) ∧ (¬ (3 : Int32) ≤ v4 → ((mTg h v0 = 7) ∧ (∃ p2, mP h v0 14 = some p2 ∧ ((mTg h p2 = 1) ∧ (∃ p5, mP h p2 1 = some p5 ∧ (((mTg h p5 = 20 ∨ mTg h p5 = 30) ∧ ¬ ((((v3 * (mI h p2 0)) + 0) * 3) + v4) < 0 ∧ (((((v3 * (mI h p2 0)) + 0) * 3) + v4).toNatClampNeg) < mLn h p5) ∧ (((mI h p5 (((((v3 * (mI h p2 0)) + 0) * 3) + v4).toNatClampNeg)) = (-2) → (Ek 57 37 [some (.ref v0), some (.int v1), some (.int v2), some (.int v3), some (.int (v4 + 1))] [] h K)) ∧ (¬ (mI h p5 (((((v3 * (mI h p2 0)) + 0) * 3) + v4).toNatClampNeg)) = (-2) → (∃ p8, mP h v0 12 = some p8 ∧ (∃ p13, mP h p2 2 = some p13 ∧ (((mTg h p13 = 20 ∨ mTg h p13 = 30) ∧ ¬ v3 < 0 ∧ (v3.toNatClampNeg) < mLn h p13) ∧ ((mTg h p8 = 1) ∧ (Ek 11 0 [some (.ref p8), some (.int v3), some (.int (mI h v0 0)), some (.int v4), some (.int (mI h p5 (((((v3 * (mI h p2 0)) + 0) * 3) + v4).toNatClampNeg))), some (.int (mI h p13 (v3.toNatClampNeg)))] [] h (fun r h17 => r = none ∧ (Ek 57 37 [some (.ref v0), some (.int v1), some (.int v2), some (.int v3), some (.int (v4 + 1))] [] h17 K)))))))))))))))) : Ek 57 37 [some (.ref v0), some (.int v1), some (.int v2), some (.int v3), some (.int v4)] [] h K := by
  refine Ek.br 3 (fun n => rfl) (fun hc => ?_) (fun hc => ?_)
  · replace H := H.1 hc
    exact Ek.go 2 (fun n => rfl) H
  · replace H := H.2 hc
    have c1 := H.1
    refine Ek.chk 2 (fun n => rfl) c1 ?_
    replace H := H.2
    obtain ⟨p2, e3, H⟩ := H
    show Ek _ _ _ (va_rf (mP h v0 14) :: _) _ _
    rw [e3]
    have c4 := H.1
    refine Ek.callT 3 (fun n => rfl) c4 ?_
    replace H := H.2
    refine Ek.chk 2 (fun n => rfl) c4 ?_
    obtain ⟨p5, e6, H⟩ := H
    show Ek _ _ _ (va_rf (mP h p2 1) :: _) _ _
    rw [e6]
    refine Ek.chk 3 (fun n => rfl) c4 ?_
    have c7 := H.1
    refine Ek.chk 8 (fun n => rfl) c7 ?_
    replace H := H.2
    refine Ek.br 2 (fun n => rfl) (fun hc => ?_) (fun hc => ?_)
    · replace H := H.1 hc
      refine Ek.ret 2 (fun n => rfl) ?_
      exact Ek.go 3 (fun n => rfl) H
    · replace H := H.2 hc
      refine Ek.ret 3 (fun n => rfl) ?_
      refine Ek.chk 3 (fun n => rfl) c1 ?_
      obtain ⟨p8, e9, H⟩ := H
      show Ek _ _ _ (va_rf (mP h v0 12) :: _) _ _
      rw [e9]
      refine Ek.chk 3 (fun n => rfl) c1 ?_
      refine Ek.chk 3 (fun n => rfl) c1 ?_
      show Ek _ _ _ (va_rf (mP h v0 14) :: _) _ _
      rw [e3]
      refine Ek.callT 3 (fun n => rfl) c4 ?_
      refine Ek.chk 2 (fun n => rfl) c4 ?_
      show Ek _ _ _ (va_rf (mP h p2 1) :: _) _ _
      rw [e6]
      refine Ek.chk 3 (fun n => rfl) c4 ?_
      refine Ek.chk 8 (fun n => rfl) c7 ?_
      refine Ek.ret 1 (fun n => rfl) ?_
      refine Ek.chk 2 (fun n => rfl) c1 ?_
      show Ek _ _ _ (va_rf (mP h v0 14) :: _) _ _
      rw [e3]
      refine Ek.callT 1 (fun n => rfl) c4 ?_
      refine Ek.chk 2 (fun n => rfl) c4 ?_
      obtain ⟨p13, e14, H⟩ := H
      show Ek _ _ _ (va_rf (mP h p2 2) :: _) _ _
      rw [e14]
      have c15 := H.1
      refine Ek.chk 2 (fun n => rfl) c15 ?_
      replace H := H.2
      refine Ek.ret 1 (fun n => rfl) ?_
      have c16 := H.1
      refine Ek.callT 0 (fun n => rfl) c16 ?_
      replace H := H.2
      refine Ek.mono H ?_
      rintro _ h17 ⟨rfl, H⟩
      exact Ek.go 2 (fun n => rfl) H

/-- RoundVotes$Node.accepts(LRoundVotes$Message;)Z, from 0 -/
set_option maxRecDepth 4000 in
theorem T58 {a0 : Nat} {a1 : Nat} {h : mH} {K : Option Value → mH → Prop} (H : (mTg h a1 = 6) ∧ ((mTg h a0 = 7) ∧ (((mI h a1 2) = (mI h a0 2) → (((mI h a1 2) = (mI h a0 2) → (∃ p3, mP h a0 12 = some p3 ∧ ((mTg h p3 = 1) ∧ (∃ p6, mP h p3 1 = some p6 ∧ (((mTg h p6 = 20 ∨ mTg h p6 = 30) ∧ ¬ (((((mI h a1 3) * (mI h p3 0)) + (mI h a1 0)) * 3) + (mI h a1 4)) < 0 ∧ ((((((mI h a1 3) * (mI h p3 0)) + (mI h a1 0)) * 3) + (mI h a1 4)).toNatClampNeg) < mLn h p6) ∧ (((mI h p6 ((((((mI h a1 3) * (mI h p3 0)) + (mI h a1 0)) * 3) + (mI h a1 4)).toNatClampNeg)) = (-2) → (Ek 11 0 [some (.ref p3), some (.int (mI h a1 3)), some (.int (mI h a1 0)), some (.int (mI h a1 4)), some (.int (mI h a1 5)), some (.int (mI h a1 6))] [] h (fun r h9 => r = none ∧ (K (some (.int 1)) h9)))) ∧ (¬ (mI h p6 ((((((mI h a1 3) * (mI h p3 0)) + (mI h a1 0)) * 3) + (mI h a1 4)).toNatClampNeg)) = (-2) → (((mI h a1 4) = 0 → (∃ p10, mP h p3 2 = some p10 ∧ (((mTg h p10 = 20 ∨ mTg h p10 = 30) ∧ ¬ (mI h a1 3) < 0 ∧ ((mI h a1 3).toNatClampNeg) < mLn h p10) ∧ (((mI h p10 ((mI h a1 3).toNatClampNeg)) = (mI h a1 6) → (((mI h p6 ((((((mI h a1 3) * (mI h p3 0)) + (mI h a1 0)) * 3) + (mI h a1 4)).toNatClampNeg)) = (mI h a1 5) → (K (some (.int 1)) h)) ∧ (¬ (mI h p6 ((((((mI h a1 3) * (mI h p3 0)) + (mI h a1 0)) * 3) + (mI h a1 4)).toNatClampNeg)) = (mI h a1 5) → (K (some (.int 0)) h)))) ∧ (¬ (mI h p10 ((mI h a1 3).toNatClampNeg)) = (mI h a1 6) → (K (some (.int 0)) h)))))) ∧ (¬ (mI h a1 4) = 0 → (((mI h p6 ((((((mI h a1 3) * (mI h p3 0)) + (mI h a1 0)) * 3) + (mI h a1 4)).toNatClampNeg)) = (mI h a1 5) → (K (some (.int 1)) h)) ∧ (¬ (mI h p6 ((((((mI h a1 3) * (mI h p3 0)) + (mI h a1 0)) * 3) + (mI h a1 4)).toNatClampNeg)) = (mI h a1 5) → (K (some (.int 0)) h)))))))))))) ∧ (¬ (mI h a1 2) = (mI h a0 2) → (∃ p15, mP h a0 13 = some p15 ∧ ((mTg h p15 = 1) ∧ (∃ p18, mP h p15 1 = some p18 ∧ (((mTg h p18 = 20 ∨ mTg h p18 = 30) ∧ ¬ (((((mI h a1 3) * (mI h p15 0)) + (mI h a1 0)) * 3) + (mI h a1 4)) < 0 ∧ ((((((mI h a1 3) * (mI h p15 0)) + (mI h a1 0)) * 3) + (mI h a1 4)).toNatClampNeg) < mLn h p18) ∧ (((mI h p18 ((((((mI h a1 3) * (mI h p15 0)) + (mI h a1 0)) * 3) + (mI h a1 4)).toNatClampNeg)) = (-2) → (Ek 11 0 [some (.ref p15), some (.int (mI h a1 3)), some (.int (mI h a1 0)), some (.int (mI h a1 4)), some (.int (mI h a1 5)), some (.int (mI h a1 6))] [] h (fun r h21 => r = none ∧ (K (some (.int 1)) h21)))) ∧ (¬ (mI h p18 ((((((mI h a1 3) * (mI h p15 0)) + (mI h a1 0)) * 3) + (mI h a1 4)).toNatClampNeg)) = (-2) → (((mI h a1 4) = 0 → (∃ p22, mP h p15 2 = some p22 ∧ (((mTg h p22 = 20 ∨ mTg h p22 = 30) ∧ ¬ (mI h a1 3) < 0 ∧ ((mI h a1 3).toNatClampNeg) < mLn h p22) ∧ (((mI h p22 ((mI h a1 3).toNatClampNeg)) = (mI h a1 6) → (((mI h p18 ((((((mI h a1 3) * (mI h p15 0)) + (mI h a1 0)) * 3) + (mI h a1 4)).toNatClampNeg)) = (mI h a1 5) → (K (some (.int 1)) h)) ∧ (¬ (mI h p18 ((((((mI h a1 3) * (mI h p15 0)) + (mI h a1 0)) * 3) + (mI h a1 4)).toNatClampNeg)) = (mI h a1 5) → (K (some (.int 0)) h)))) ∧ (¬ (mI h p22 ((mI h a1 3).toNatClampNeg)) = (mI h a1 6) → (K (some (.int 0)) h)))))) ∧ (¬ (mI h a1 4) = 0 → (((mI h p18 ((((((mI h a1 3) * (mI h p15 0)) + (mI h a1 0)) * 3) + (mI h a1 4)).toNatClampNeg)) = (mI h a1 5) → (K (some (.int 1)) h)) ∧ (¬ (mI h p18 ((((((mI h a1 3) * (mI h p15 0)) + (mI h a1 0)) * 3) + (mI h a1 4)).toNatClampNeg)) = (mI h a1 5) → (K (some (.int 0)) h)))))))))))))) ∧ (¬ (mI h a1 2) = (mI h a0 2) → (((mI h a1 2) = ((mI h a0 2) + 1) → (((mI h a1 2) = (mI h a0 2) → (∃ p27, mP h a0 12 = some p27 ∧ ((mTg h p27 = 1) ∧ (∃ p30, mP h p27 1 = some p30 ∧ (((mTg h p30 = 20 ∨ mTg h p30 = 30) ∧ ¬ (((((mI h a1 3) * (mI h p27 0)) + (mI h a1 0)) * 3) + (mI h a1 4)) < 0 ∧ ((((((mI h a1 3) * (mI h p27 0)) + (mI h a1 0)) * 3) + (mI h a1 4)).toNatClampNeg) < mLn h p30) ∧ (((mI h p30 ((((((mI h a1 3) * (mI h p27 0)) + (mI h a1 0)) * 3) + (mI h a1 4)).toNatClampNeg)) = (-2) → (Ek 11 0 [some (.ref p27), some (.int (mI h a1 3)), some (.int (mI h a1 0)), some (.int (mI h a1 4)), some (.int (mI h a1 5)), some (.int (mI h a1 6))] [] h (fun r h33 => r = none ∧ (K (some (.int 1)) h33)))) ∧ (¬ (mI h p30 ((((((mI h a1 3) * (mI h p27 0)) + (mI h a1 0)) * 3) + (mI h a1 4)).toNatClampNeg)) = (-2) → (((mI h a1 4) = 0 → (∃ p34, mP h p27 2 = some p34 ∧ (((mTg h p34 = 20 ∨ mTg h p34 = 30) ∧ ¬ (mI h a1 3) < 0 ∧ ((mI h a1 3).toNatClampNeg) < mLn h p34) ∧ (((mI h p34 ((mI h a1 3).toNatClampNeg)) = (mI h a1 6) → (((mI h p30 ((((((mI h a1 3) * (mI h p27 0)) + (mI h a1 0)) * 3) + (mI h a1 4)).toNatClampNeg)) = (mI h a1 5) → (K (some (.int 1)) h)) ∧ (¬ (mI h p30 ((((((mI h a1 3) * (mI h p27 0)) + (mI h a1 0)) * 3) + (mI h a1 4)).toNatClampNeg)) = (mI h a1 5) → (K (some (.int 0)) h)))) ∧ (¬ (mI h p34 ((mI h a1 3).toNatClampNeg)) = (mI h a1 6) → (K (some (.int 0)) h)))))) ∧ (¬ (mI h a1 4) = 0 → (((mI h p30 ((((((mI h a1 3) * (mI h p27 0)) + (mI h a1 0)) * 3) + (mI h a1 4)).toNatClampNeg)) = (mI h a1 5) → (K (some (.int 1)) h)) ∧ (¬ (mI h p30 ((((((mI h a1 3) * (mI h p27 0)) + (mI h a1 0)) * 3) + (mI h a1 4)).toNatClampNeg)) = (mI h a1 5) → (K (some (.int 0)) h)))))))))))) ∧ (¬ (mI h a1 2) = (mI h a0 2) → (∃ p39, mP h a0 13 = some p39 ∧ ((mTg h p39 = 1) ∧ (∃ p42, mP h p39 1 = some p42 ∧ (((mTg h p42 = 20 ∨ mTg h p42 = 30) ∧ ¬ (((((mI h a1 3) * (mI h p39 0)) + (mI h a1 0)) * 3) + (mI h a1 4)) < 0 ∧ ((((((mI h a1 3) * (mI h p39 0)) + (mI h a1 0)) * 3) + (mI h a1 4)).toNatClampNeg) < mLn h p42) ∧ (((mI h p42 ((((((mI h a1 3) * (mI h p39 0)) + (mI h a1 0)) * 3) + (mI h a1 4)).toNatClampNeg)) = (-2) → (Ek 11 0 [some (.ref p39), some (.int (mI h a1 3)), some (.int (mI h a1 0)), some (.int (mI h a1 4)), some (.int (mI h a1 5)), some (.int (mI h a1 6))] [] h (fun r h45 => r = none ∧ (K (some (.int 1)) h45)))) ∧ (¬ (mI h p42 ((((((mI h a1 3) * (mI h p39 0)) + (mI h a1 0)) * 3) + (mI h a1 4)).toNatClampNeg)) = (-2) → (((mI h a1 4) = 0 → (∃ p46, mP h p39 2 = some p46 ∧ (((mTg h p46 = 20 ∨ mTg h p46 = 30) ∧ ¬ (mI h a1 3) < 0 ∧ ((mI h a1 3).toNatClampNeg) < mLn h p46) ∧ (((mI h p46 ((mI h a1 3).toNatClampNeg)) = (mI h a1 6) → (((mI h p42 ((((((mI h a1 3) * (mI h p39 0)) + (mI h a1 0)) * 3) + (mI h a1 4)).toNatClampNeg)) = (mI h a1 5) → (K (some (.int 1)) h)) ∧ (¬ (mI h p42 ((((((mI h a1 3) * (mI h p39 0)) + (mI h a1 0)) * 3) + (mI h a1 4)).toNatClampNeg)) = (mI h a1 5) → (K (some (.int 0)) h)))) ∧ (¬ (mI h p46 ((mI h a1 3).toNatClampNeg)) = (mI h a1 6) → (K (some (.int 0)) h)))))) ∧ (¬ (mI h a1 4) = 0 → (((mI h p42 ((((((mI h a1 3) * (mI h p39 0)) + (mI h a1 0)) * 3) + (mI h a1 4)).toNatClampNeg)) = (mI h a1 5) → (K (some (.int 1)) h)) ∧ (¬ (mI h p42 ((((((mI h a1 3) * (mI h p39 0)) + (mI h a1 0)) * 3) + (mI h a1 4)).toNatClampNeg)) = (mI h a1 5) → (K (some (.int 0)) h)))))))))))))) ∧ (¬ (mI h a1 2) = ((mI h a0 2) + 1) → (K (some (.int 1)) h))))))) : Ek 58 0 [some (.ref a0), some (.ref a1), none] [] h K := by
  have c1 := H.1
  refine Ek.chk 2 (fun n => rfl) c1 ?_
  replace H := H.2
  have c2 := H.1
  refine Ek.chk 2 (fun n => rfl) c2 ?_
  replace H := H.2
  refine Ek.br 1 (fun n => rfl) (fun hc => ?_) (fun hc => ?_)
  · replace H := H.1 hc
    refine Ek.chk 2 (fun n => rfl) c1 ?_
    refine Ek.chk 2 (fun n => rfl) c2 ?_
    refine Ek.br 1 (fun n => rfl) (fun hc => ?_) (fun hc => ?_)
    · replace H := H.1 hc
      refine Ek.chk 2 (fun n => rfl) c2 ?_
      obtain ⟨p3, e4, H⟩ := H
      show Ek _ _ _ (va_rf (mP h a0 12) :: _) _ _
      rw [e4]
      refine Ek.chk 5 (fun n => rfl) c1 ?_
      refine Ek.chk 2 (fun n => rfl) c1 ?_
      refine Ek.chk 2 (fun n => rfl) c1 ?_
      have c5 := H.1
      refine Ek.callT 0 (fun n => rfl) c5 ?_
      replace H := H.2
      refine Ek.chk 2 (fun n => rfl) c5 ?_
      obtain ⟨p6, e7, H⟩ := H
      show Ek _ _ _ (va_rf (mP h p3 1) :: _) _ _
      rw [e7]
      refine Ek.chk 3 (fun n => rfl) c5 ?_
      have c8 := H.1
      refine Ek.chk 8 (fun n => rfl) c8 ?_
      replace H := H.2
      refine Ek.br 2 (fun n => rfl) (fun hc => ?_) (fun hc => ?_)
      · replace H := H.1 hc
        refine Ek.ret 2 (fun n => rfl) ?_
        refine Ek.chk 4 (fun n => rfl) c1 ?_
        refine Ek.chk 2 (fun n => rfl) c1 ?_
        refine Ek.chk 2 (fun n => rfl) c1 ?_
        refine Ek.chk 2 (fun n => rfl) c1 ?_
        refine Ek.chk 2 (fun n => rfl) c1 ?_
        refine Ek.callT 0 (fun n => rfl) c5 ?_
        refine Ek.mono H ?_
        rintro _ h9 ⟨rfl, H⟩
        exact Ek.ret 2 (fun n => rfl) H
      · replace H := H.2 hc
        refine Ek.ret 3 (fun n => rfl) ?_
        refine Ek.chk 3 (fun n => rfl) c1 ?_
        refine Ek.br 1 (fun n => rfl) (fun hc => ?_) (fun hc => ?_)
        · replace H := H.1 hc
          refine Ek.chk 3 (fun n => rfl) c1 ?_
          refine Ek.callT 0 (fun n => rfl) c5 ?_
          refine Ek.chk 2 (fun n => rfl) c5 ?_
          obtain ⟨p10, e11, H⟩ := H
          show Ek _ _ _ (va_rf (mP h p3 2) :: _) _ _
          rw [e11]
          have c12 := H.1
          refine Ek.chk 2 (fun n => rfl) c12 ?_
          replace H := H.2
          refine Ek.ret 1 (fun n => rfl) ?_
          refine Ek.chk 2 (fun n => rfl) c1 ?_
          refine Ek.br 1 (fun n => rfl) (fun hc => ?_) (fun hc => ?_)
          · replace H := H.1 hc
            refine Ek.chk 3 (fun n => rfl) c1 ?_
            refine Ek.chk 2 (fun n => rfl) c1 ?_
            refine Ek.chk 2 (fun n => rfl) c1 ?_
            refine Ek.callT 0 (fun n => rfl) c5 ?_
            refine Ek.chk 2 (fun n => rfl) c5 ?_
            show Ek _ _ _ (va_rf (mP h p3 1) :: _) _ _
            rw [e7]
            refine Ek.chk 3 (fun n => rfl) c5 ?_
            refine Ek.chk 8 (fun n => rfl) c8 ?_
            refine Ek.ret 1 (fun n => rfl) ?_
            refine Ek.chk 2 (fun n => rfl) c1 ?_
            refine Ek.br 1 (fun n => rfl) (fun hc => ?_) (fun hc => ?_)
            · replace H := H.1 hc
              exact Ek.ret 3 (fun n => rfl) H
            · replace H := H.2 hc
              exact Ek.ret 2 (fun n => rfl) H
          · replace H := H.2 hc
            exact Ek.ret 2 (fun n => rfl) H
        · replace H := H.2 hc
          refine Ek.chk 3 (fun n => rfl) c1 ?_
          refine Ek.chk 2 (fun n => rfl) c1 ?_
          refine Ek.chk 2 (fun n => rfl) c1 ?_
          refine Ek.callT 0 (fun n => rfl) c5 ?_
          refine Ek.chk 2 (fun n => rfl) c5 ?_
          show Ek _ _ _ (va_rf (mP h p3 1) :: _) _ _
          rw [e7]
          refine Ek.chk 3 (fun n => rfl) c5 ?_
          refine Ek.chk 8 (fun n => rfl) c8 ?_
          refine Ek.ret 1 (fun n => rfl) ?_
          refine Ek.chk 2 (fun n => rfl) c1 ?_
          refine Ek.br 1 (fun n => rfl) (fun hc => ?_) (fun hc => ?_)
          · replace H := H.1 hc
            exact Ek.ret 3 (fun n => rfl) H
          · replace H := H.2 hc
            exact Ek.ret 2 (fun n => rfl) H
    · replace H := H.2 hc
      refine Ek.chk 2 (fun n => rfl) c2 ?_
      obtain ⟨p15, e16, H⟩ := H
      show Ek _ _ _ (va_rf (mP h a0 13) :: _) _ _
      rw [e16]
      refine Ek.chk 4 (fun n => rfl) c1 ?_
      refine Ek.chk 2 (fun n => rfl) c1 ?_
      refine Ek.chk 2 (fun n => rfl) c1 ?_
      have c17 := H.1
      refine Ek.callT 0 (fun n => rfl) c17 ?_
      replace H := H.2
      refine Ek.chk 2 (fun n => rfl) c17 ?_
      obtain ⟨p18, e19, H⟩ := H
      show Ek _ _ _ (va_rf (mP h p15 1) :: _) _ _
      rw [e19]
      refine Ek.chk 3 (fun n => rfl) c17 ?_
      have c20 := H.1
      refine Ek.chk 8 (fun n => rfl) c20 ?_
      replace H := H.2
      refine Ek.br 2 (fun n => rfl) (fun hc => ?_) (fun hc => ?_)
      · replace H := H.1 hc
        refine Ek.ret 2 (fun n => rfl) ?_
        refine Ek.chk 4 (fun n => rfl) c1 ?_
        refine Ek.chk 2 (fun n => rfl) c1 ?_
        refine Ek.chk 2 (fun n => rfl) c1 ?_
        refine Ek.chk 2 (fun n => rfl) c1 ?_
        refine Ek.chk 2 (fun n => rfl) c1 ?_
        refine Ek.callT 0 (fun n => rfl) c17 ?_
        refine Ek.mono H ?_
        rintro _ h21 ⟨rfl, H⟩
        exact Ek.ret 2 (fun n => rfl) H
      · replace H := H.2 hc
        refine Ek.ret 3 (fun n => rfl) ?_
        refine Ek.chk 3 (fun n => rfl) c1 ?_
        refine Ek.br 1 (fun n => rfl) (fun hc => ?_) (fun hc => ?_)
        · replace H := H.1 hc
          refine Ek.chk 3 (fun n => rfl) c1 ?_
          refine Ek.callT 0 (fun n => rfl) c17 ?_
          refine Ek.chk 2 (fun n => rfl) c17 ?_
          obtain ⟨p22, e23, H⟩ := H
          show Ek _ _ _ (va_rf (mP h p15 2) :: _) _ _
          rw [e23]
          have c24 := H.1
          refine Ek.chk 2 (fun n => rfl) c24 ?_
          replace H := H.2
          refine Ek.ret 1 (fun n => rfl) ?_
          refine Ek.chk 2 (fun n => rfl) c1 ?_
          refine Ek.br 1 (fun n => rfl) (fun hc => ?_) (fun hc => ?_)
          · replace H := H.1 hc
            refine Ek.chk 3 (fun n => rfl) c1 ?_
            refine Ek.chk 2 (fun n => rfl) c1 ?_
            refine Ek.chk 2 (fun n => rfl) c1 ?_
            refine Ek.callT 0 (fun n => rfl) c17 ?_
            refine Ek.chk 2 (fun n => rfl) c17 ?_
            show Ek _ _ _ (va_rf (mP h p15 1) :: _) _ _
            rw [e19]
            refine Ek.chk 3 (fun n => rfl) c17 ?_
            refine Ek.chk 8 (fun n => rfl) c20 ?_
            refine Ek.ret 1 (fun n => rfl) ?_
            refine Ek.chk 2 (fun n => rfl) c1 ?_
            refine Ek.br 1 (fun n => rfl) (fun hc => ?_) (fun hc => ?_)
            · replace H := H.1 hc
              exact Ek.ret 3 (fun n => rfl) H
            · replace H := H.2 hc
              exact Ek.ret 2 (fun n => rfl) H
          · replace H := H.2 hc
            exact Ek.ret 2 (fun n => rfl) H
        · replace H := H.2 hc
          refine Ek.chk 3 (fun n => rfl) c1 ?_
          refine Ek.chk 2 (fun n => rfl) c1 ?_
          refine Ek.chk 2 (fun n => rfl) c1 ?_
          refine Ek.callT 0 (fun n => rfl) c17 ?_
          refine Ek.chk 2 (fun n => rfl) c17 ?_
          show Ek _ _ _ (va_rf (mP h p15 1) :: _) _ _
          rw [e19]
          refine Ek.chk 3 (fun n => rfl) c17 ?_
          refine Ek.chk 8 (fun n => rfl) c20 ?_
          refine Ek.ret 1 (fun n => rfl) ?_
          refine Ek.chk 2 (fun n => rfl) c1 ?_
          refine Ek.br 1 (fun n => rfl) (fun hc => ?_) (fun hc => ?_)
          · replace H := H.1 hc
            exact Ek.ret 3 (fun n => rfl) H
          · replace H := H.2 hc
            exact Ek.ret 2 (fun n => rfl) H
  · replace H := H.2 hc
    refine Ek.chk 2 (fun n => rfl) c1 ?_
    refine Ek.chk 2 (fun n => rfl) c2 ?_
    refine Ek.br 3 (fun n => rfl) (fun hc => ?_) (fun hc => ?_)
    · replace H := H.1 hc
      refine Ek.chk 2 (fun n => rfl) c1 ?_
      refine Ek.chk 2 (fun n => rfl) c2 ?_
      refine Ek.br 1 (fun n => rfl) (fun hc => ?_) (fun hc => ?_)
      · replace H := H.1 hc
        refine Ek.chk 2 (fun n => rfl) c2 ?_
        obtain ⟨p27, e28, H⟩ := H
        show Ek _ _ _ (va_rf (mP h a0 12) :: _) _ _
        rw [e28]
        refine Ek.chk 5 (fun n => rfl) c1 ?_
        refine Ek.chk 2 (fun n => rfl) c1 ?_
        refine Ek.chk 2 (fun n => rfl) c1 ?_
        have c29 := H.1
        refine Ek.callT 0 (fun n => rfl) c29 ?_
        replace H := H.2
        refine Ek.chk 2 (fun n => rfl) c29 ?_
        obtain ⟨p30, e31, H⟩ := H
        show Ek _ _ _ (va_rf (mP h p27 1) :: _) _ _
        rw [e31]
        refine Ek.chk 3 (fun n => rfl) c29 ?_
        have c32 := H.1
        refine Ek.chk 8 (fun n => rfl) c32 ?_
        replace H := H.2
        refine Ek.br 2 (fun n => rfl) (fun hc => ?_) (fun hc => ?_)
        · replace H := H.1 hc
          refine Ek.ret 2 (fun n => rfl) ?_
          refine Ek.chk 4 (fun n => rfl) c1 ?_
          refine Ek.chk 2 (fun n => rfl) c1 ?_
          refine Ek.chk 2 (fun n => rfl) c1 ?_
          refine Ek.chk 2 (fun n => rfl) c1 ?_
          refine Ek.chk 2 (fun n => rfl) c1 ?_
          refine Ek.callT 0 (fun n => rfl) c29 ?_
          refine Ek.mono H ?_
          rintro _ h33 ⟨rfl, H⟩
          exact Ek.ret 2 (fun n => rfl) H
        · replace H := H.2 hc
          refine Ek.ret 3 (fun n => rfl) ?_
          refine Ek.chk 3 (fun n => rfl) c1 ?_
          refine Ek.br 1 (fun n => rfl) (fun hc => ?_) (fun hc => ?_)
          · replace H := H.1 hc
            refine Ek.chk 3 (fun n => rfl) c1 ?_
            refine Ek.callT 0 (fun n => rfl) c29 ?_
            refine Ek.chk 2 (fun n => rfl) c29 ?_
            obtain ⟨p34, e35, H⟩ := H
            show Ek _ _ _ (va_rf (mP h p27 2) :: _) _ _
            rw [e35]
            have c36 := H.1
            refine Ek.chk 2 (fun n => rfl) c36 ?_
            replace H := H.2
            refine Ek.ret 1 (fun n => rfl) ?_
            refine Ek.chk 2 (fun n => rfl) c1 ?_
            refine Ek.br 1 (fun n => rfl) (fun hc => ?_) (fun hc => ?_)
            · replace H := H.1 hc
              refine Ek.chk 3 (fun n => rfl) c1 ?_
              refine Ek.chk 2 (fun n => rfl) c1 ?_
              refine Ek.chk 2 (fun n => rfl) c1 ?_
              refine Ek.callT 0 (fun n => rfl) c29 ?_
              refine Ek.chk 2 (fun n => rfl) c29 ?_
              show Ek _ _ _ (va_rf (mP h p27 1) :: _) _ _
              rw [e31]
              refine Ek.chk 3 (fun n => rfl) c29 ?_
              refine Ek.chk 8 (fun n => rfl) c32 ?_
              refine Ek.ret 1 (fun n => rfl) ?_
              refine Ek.chk 2 (fun n => rfl) c1 ?_
              refine Ek.br 1 (fun n => rfl) (fun hc => ?_) (fun hc => ?_)
              · replace H := H.1 hc
                exact Ek.ret 3 (fun n => rfl) H
              · replace H := H.2 hc
                exact Ek.ret 2 (fun n => rfl) H
            · replace H := H.2 hc
              exact Ek.ret 2 (fun n => rfl) H
          · replace H := H.2 hc
            refine Ek.chk 3 (fun n => rfl) c1 ?_
            refine Ek.chk 2 (fun n => rfl) c1 ?_
            refine Ek.chk 2 (fun n => rfl) c1 ?_
            refine Ek.callT 0 (fun n => rfl) c29 ?_
            refine Ek.chk 2 (fun n => rfl) c29 ?_
            show Ek _ _ _ (va_rf (mP h p27 1) :: _) _ _
            rw [e31]
            refine Ek.chk 3 (fun n => rfl) c29 ?_
            refine Ek.chk 8 (fun n => rfl) c32 ?_
            refine Ek.ret 1 (fun n => rfl) ?_
            refine Ek.chk 2 (fun n => rfl) c1 ?_
            refine Ek.br 1 (fun n => rfl) (fun hc => ?_) (fun hc => ?_)
            · replace H := H.1 hc
              exact Ek.ret 3 (fun n => rfl) H
            · replace H := H.2 hc
              exact Ek.ret 2 (fun n => rfl) H
      · replace H := H.2 hc
        refine Ek.chk 2 (fun n => rfl) c2 ?_
        obtain ⟨p39, e40, H⟩ := H
        show Ek _ _ _ (va_rf (mP h a0 13) :: _) _ _
        rw [e40]
        refine Ek.chk 4 (fun n => rfl) c1 ?_
        refine Ek.chk 2 (fun n => rfl) c1 ?_
        refine Ek.chk 2 (fun n => rfl) c1 ?_
        have c41 := H.1
        refine Ek.callT 0 (fun n => rfl) c41 ?_
        replace H := H.2
        refine Ek.chk 2 (fun n => rfl) c41 ?_
        obtain ⟨p42, e43, H⟩ := H
        show Ek _ _ _ (va_rf (mP h p39 1) :: _) _ _
        rw [e43]
        refine Ek.chk 3 (fun n => rfl) c41 ?_
        have c44 := H.1
        refine Ek.chk 8 (fun n => rfl) c44 ?_
        replace H := H.2
        refine Ek.br 2 (fun n => rfl) (fun hc => ?_) (fun hc => ?_)
        · replace H := H.1 hc
          refine Ek.ret 2 (fun n => rfl) ?_
          refine Ek.chk 4 (fun n => rfl) c1 ?_
          refine Ek.chk 2 (fun n => rfl) c1 ?_
          refine Ek.chk 2 (fun n => rfl) c1 ?_
          refine Ek.chk 2 (fun n => rfl) c1 ?_
          refine Ek.chk 2 (fun n => rfl) c1 ?_
          refine Ek.callT 0 (fun n => rfl) c41 ?_
          refine Ek.mono H ?_
          rintro _ h45 ⟨rfl, H⟩
          exact Ek.ret 2 (fun n => rfl) H
        · replace H := H.2 hc
          refine Ek.ret 3 (fun n => rfl) ?_
          refine Ek.chk 3 (fun n => rfl) c1 ?_
          refine Ek.br 1 (fun n => rfl) (fun hc => ?_) (fun hc => ?_)
          · replace H := H.1 hc
            refine Ek.chk 3 (fun n => rfl) c1 ?_
            refine Ek.callT 0 (fun n => rfl) c41 ?_
            refine Ek.chk 2 (fun n => rfl) c41 ?_
            obtain ⟨p46, e47, H⟩ := H
            show Ek _ _ _ (va_rf (mP h p39 2) :: _) _ _
            rw [e47]
            have c48 := H.1
            refine Ek.chk 2 (fun n => rfl) c48 ?_
            replace H := H.2
            refine Ek.ret 1 (fun n => rfl) ?_
            refine Ek.chk 2 (fun n => rfl) c1 ?_
            refine Ek.br 1 (fun n => rfl) (fun hc => ?_) (fun hc => ?_)
            · replace H := H.1 hc
              refine Ek.chk 3 (fun n => rfl) c1 ?_
              refine Ek.chk 2 (fun n => rfl) c1 ?_
              refine Ek.chk 2 (fun n => rfl) c1 ?_
              refine Ek.callT 0 (fun n => rfl) c41 ?_
              refine Ek.chk 2 (fun n => rfl) c41 ?_
              show Ek _ _ _ (va_rf (mP h p39 1) :: _) _ _
              rw [e43]
              refine Ek.chk 3 (fun n => rfl) c41 ?_
              refine Ek.chk 8 (fun n => rfl) c44 ?_
              refine Ek.ret 1 (fun n => rfl) ?_
              refine Ek.chk 2 (fun n => rfl) c1 ?_
              refine Ek.br 1 (fun n => rfl) (fun hc => ?_) (fun hc => ?_)
              · replace H := H.1 hc
                exact Ek.ret 3 (fun n => rfl) H
              · replace H := H.2 hc
                exact Ek.ret 2 (fun n => rfl) H
            · replace H := H.2 hc
              exact Ek.ret 2 (fun n => rfl) H
          · replace H := H.2 hc
            refine Ek.chk 3 (fun n => rfl) c1 ?_
            refine Ek.chk 2 (fun n => rfl) c1 ?_
            refine Ek.chk 2 (fun n => rfl) c1 ?_
            refine Ek.callT 0 (fun n => rfl) c41 ?_
            refine Ek.chk 2 (fun n => rfl) c41 ?_
            show Ek _ _ _ (va_rf (mP h p39 1) :: _) _ _
            rw [e43]
            refine Ek.chk 3 (fun n => rfl) c41 ?_
            refine Ek.chk 8 (fun n => rfl) c44 ?_
            refine Ek.ret 1 (fun n => rfl) ?_
            refine Ek.chk 2 (fun n => rfl) c1 ?_
            refine Ek.br 1 (fun n => rfl) (fun hc => ?_) (fun hc => ?_)
            · replace H := H.1 hc
              exact Ek.ret 3 (fun n => rfl) H
            · replace H := H.2 hc
              exact Ek.ret 2 (fun n => rfl) H
    · replace H := H.2 hc
      exact Ek.ret 2 (fun n => rfl) H

/-- RoundVotes$Node.endTimer(II)V, from 0 -/
set_option maxRecDepth 4000 in
theorem T59 {a0 : Nat} {a1 : Int32} {a2 : Int32} {h : mH} {K : Option Value → mH → Prop} (H : (mTg h a0 = 7) ∧ (∃ p2, mP h a0 9 = some p2 ∧ ((mTg h p2 = 20 ∧ ¬ a1 < 0 ∧ (a1.toNatClampNeg) < mLn h p2) ∧ (∀ h4, h4 = wI h p2 (a1.toNatClampNeg) 0 → ((a1 = 0 → (((mI h4 a0 4) = 0 → (Ek 40 0 [some (.ref a0), some (.int 1), some (.int 0), some (.int (-1)), none, none] [] h4 (fun r h6 => r = none ∧ (K none h6)))) ∧ (¬ (mI h4 a0 4) = 0 → ((a1 = 1 → (((mI h4 a0 4) = 1 → (Ek 40 0 [some (.ref a0), some (.int 2), some (.int 0), some (.int (-1)), none, none] [] h4 (fun r h7 => r = none ∧ (K none h7)))) ∧ (¬ (mI h4 a0 4) = 1 → ((a1 = 2 → (Ek 38 0 [some (.ref a0), some (.int ((mI h4 a0 3) + 1)), some (.int a2), none] [] h4 (fun r h8 => r = none ∧ (K none h8)))) ∧ (¬ a1 = 2 → (K none h4)))))) ∧ (¬ a1 = 1 → ((a1 = 2 → (Ek 38 0 [some (.ref a0), some (.int ((mI h4 a0 3) + 1)), some (.int a2), none] [] h4 (fun r h9 => r = none ∧ (K none h9)))) ∧ (¬ a1 = 2 → (K none h4)))))))) ∧ (¬ a1 = 0 → ((a1 = 1 → (((mI h4 a0 4) = 1 → (Ek 40 0 [some (.ref a0), some (.int 2), some (.int 0), some (.int (-1)), none, none] [] h4 (fun r h10 => r = none ∧ (K none h10)))) ∧ (¬ (mI h4 a0 4) = 1 → ((a1 = 2 → (Ek 38 0 [some (.ref a0), some (.int ((mI h4 a0 3) + 1)), some (.int a2), none] [] h4 (fun r h11 => r = none ∧ (K none h11)))) ∧ (¬ a1 = 2 → (K none h4)))))) ∧ (¬ a1 = 1 → ((a1 = 2 → (Ek 38 0 [some (.ref a0), some (.int ((mI h4 a0 3) + 1)), some (.int a2), none] [] h4 (fun r h12 => r = none ∧ (K none h12)))) ∧ (¬ a1 = 2 → (K none h4))))))))))) : Ek 59 0 [some (.ref a0), some (.int a1), some (.int a2)] [] h K := by
  have c1 := H.1
  refine Ek.chk 2 (fun n => rfl) c1 ?_
  replace H := H.2
  obtain ⟨p2, e3, H⟩ := H
  show Ek _ _ _ (va_rf (mP h a0 9) :: _) _ _
  rw [e3]
  have c5 := H.1
  refine Ek.chk 3 (fun n => rfl) c5 ?_
  replace H := H.2
  let h4 : mH := wI h p2 (a1.toNatClampNeg) 0
  replace H := H h4 rfl
  show Ek _ _ _ _ h4 _
  refine Ek.br 2 (fun n => rfl) (fun hc => ?_) (fun hc => ?_)
  · replace H := H.1 hc
    refine Ek.chk 2 (fun n => rfl) c1 ?_
    refine Ek.br 1 (fun n => rfl) (fun hc => ?_) (fun hc => ?_)
    · replace H := H.1 hc
      refine Ek.callT 4 (fun n => rfl) c1 ?_
      refine Ek.mono H ?_
      rintro _ h6 ⟨rfl, H⟩
      exact Ek.ret 2 (fun n => rfl) H
    · replace H := H.2 hc
      refine Ek.br 3 (fun n => rfl) (fun hc => ?_) (fun hc => ?_)
      · replace H := H.1 hc
        refine Ek.chk 2 (fun n => rfl) c1 ?_
        refine Ek.br 2 (fun n => rfl) (fun hc => ?_) (fun hc => ?_)
        · replace H := H.1 hc
          refine Ek.callT 4 (fun n => rfl) c1 ?_
          refine Ek.mono H ?_
          rintro _ h7 ⟨rfl, H⟩
          exact Ek.ret 2 (fun n => rfl) H
        · replace H := H.2 hc
          refine Ek.br 3 (fun n => rfl) (fun hc => ?_) (fun hc => ?_)
          · replace H := H.1 hc
            refine Ek.chk 3 (fun n => rfl) c1 ?_
            refine Ek.callT 3 (fun n => rfl) c1 ?_
            refine Ek.mono H ?_
            rintro _ h8 ⟨rfl, H⟩
            exact Ek.ret 1 (fun n => rfl) H
          · replace H := H.2 hc
            exact Ek.ret 1 (fun n => rfl) H
      · replace H := H.2 hc
        refine Ek.br 3 (fun n => rfl) (fun hc => ?_) (fun hc => ?_)
        · replace H := H.1 hc
          refine Ek.chk 3 (fun n => rfl) c1 ?_
          refine Ek.callT 3 (fun n => rfl) c1 ?_
          refine Ek.mono H ?_
          rintro _ h9 ⟨rfl, H⟩
          exact Ek.ret 1 (fun n => rfl) H
        · replace H := H.2 hc
          exact Ek.ret 1 (fun n => rfl) H
  · replace H := H.2 hc
    refine Ek.br 3 (fun n => rfl) (fun hc => ?_) (fun hc => ?_)
    · replace H := H.1 hc
      refine Ek.chk 2 (fun n => rfl) c1 ?_
      refine Ek.br 2 (fun n => rfl) (fun hc => ?_) (fun hc => ?_)
      · replace H := H.1 hc
        refine Ek.callT 4 (fun n => rfl) c1 ?_
        refine Ek.mono H ?_
        rintro _ h10 ⟨rfl, H⟩
        exact Ek.ret 2 (fun n => rfl) H
      · replace H := H.2 hc
        refine Ek.br 3 (fun n => rfl) (fun hc => ?_) (fun hc => ?_)
        · replace H := H.1 hc
          refine Ek.chk 3 (fun n => rfl) c1 ?_
          refine Ek.callT 3 (fun n => rfl) c1 ?_
          refine Ek.mono H ?_
          rintro _ h11 ⟨rfl, H⟩
          exact Ek.ret 1 (fun n => rfl) H
        · replace H := H.2 hc
          exact Ek.ret 1 (fun n => rfl) H
    · replace H := H.2 hc
      refine Ek.br 3 (fun n => rfl) (fun hc => ?_) (fun hc => ?_)
      · replace H := H.1 hc
        refine Ek.chk 3 (fun n => rfl) c1 ?_
        refine Ek.callT 3 (fun n => rfl) c1 ?_
        refine Ek.mono H ?_
        rintro _ h12 ⟨rfl, H⟩
        exact Ek.ret 1 (fun n => rfl) H
      · replace H := H.2 hc
        exact Ek.ret 1 (fun n => rfl) H

/-- RoundVotes$Node.decideAs(LRoundVotes$Node;)V, from 0 -/
set_option maxRecDepth 4000 in
theorem T60 {a0 : Nat} {a1 : Nat} {h : mH} {K : Option Value → mH → Prop} (H : (mTg h a1 = 7) ∧ (∃ p2, mP h a1 11 = some p2 ∧ ((mTg h a0 = 7) ∧ (∃ p5, mP h a0 11 = some p5 ∧ ((mTg h p2 = 3) ∧ (∃ p8, mP h p2 0 = some p8 ∧ (((mTg h p8 = 20 ∨ mTg h p8 = 30) ∧ ¬ (mI h a0 2) < 0 ∧ ((mI h a0 2).toNatClampNeg) < mLn h p8) ∧ (∃ p11, mP h p2 1 = some p11 ∧ (((mTg h p11 = 20 ∨ mTg h p11 = 30) ∧ ¬ (mI h a0 2) < 0 ∧ ((mI h a0 2).toNatClampNeg) < mLn h p11) ∧ (∃ p14, mP h p2 2 = some p14 ∧ (((mTg h p14 = 20 ∨ mTg h p14 = 30) ∧ ¬ (mI h a0 2) < 0 ∧ ((mI h a0 2).toNatClampNeg) < mLn h p14) ∧ ((mTg h p5 = 3) ∧ (∃ p18, mP h p5 0 = some p18 ∧ ((mTg h p18 = 20 ∧ ¬ (mI h a0 2) < 0 ∧ ((mI h a0 2).toNatClampNeg) < mLn h p18) ∧ (∀ h20, h20 = wI h p18 ((mI h a0 2).toNatClampNeg) (mI h p8 ((mI h a0 2).toNatClampNeg)) → (∃ p22, mP h p5 1 = some p22 ∧ ((mTg h p22 = 20 ∧ ¬ (mI h a0 2) < 0 ∧ ((mI h a0 2).toNatClampNeg) < mLn h p22) ∧ (∀ h24, h24 = wI h20 p22 ((mI h a0 2).toNatClampNeg) (mI h p11 ((mI h a0 2).toNatClampNeg)) → (∃ p26, mP h p5 2 = some p26 ∧ ((mTg h p26 = 20 ∧ ¬ (mI h a0 2) < 0 ∧ ((mI h a0 2).toNatClampNeg) < mLn h p26) ∧ (∀ h28, h28 = wI h24 p26 ((mI h a0 2).toNatClampNeg) (mI h p14 ((mI h a0 2).toNatClampNeg)) → (Ek 48 0 [some (.ref a0), none] [] h28 (fun r h30 => r = none ∧ (K none h30)))))))))))))))))))))))) : Ek 60 0 [some (.ref a0), some (.ref a1), none] [] h K := by
  have c1 := H.1
  refine Ek.chk 2 (fun n => rfl) c1 ?_
  replace H := H.2
  obtain ⟨p2, e3, H⟩ := H
  show Ek _ _ _ (va_rf (mP h a1 11) :: _) _ _
  rw [e3]
  have c4 := H.1
  refine Ek.chk 3 (fun n => rfl) c4 ?_
  replace H := H.2
  obtain ⟨p5, e6, H⟩ := H
  show Ek _ _ _ (va_rf (mP h a0 11) :: _) _ _
  rw [e6]
  refine Ek.chk 2 (fun n => rfl) c4 ?_
  have c7 := H.1
  refine Ek.chk 2 (fun n => rfl) c7 ?_
  replace H := H.2
  obtain ⟨p8, e9, H⟩ := H
  show Ek _ _ _ (va_rf (mP h p2 0) :: _) _ _
  rw [e9]
  refine Ek.chk 2 (fun n => rfl) c4 ?_
  have c10 := H.1
  refine Ek.chk 1 (fun n => rfl) c10 ?_
  replace H := H.2
  refine Ek.chk 2 (fun n => rfl) c7 ?_
  obtain ⟨p11, e12, H⟩ := H
  show Ek _ _ _ (va_rf (mP h p2 1) :: _) _ _
  rw [e12]
  refine Ek.chk 2 (fun n => rfl) c4 ?_
  have c13 := H.1
  refine Ek.chk 1 (fun n => rfl) c13 ?_
  replace H := H.2
  refine Ek.chk 2 (fun n => rfl) c7 ?_
  obtain ⟨p14, e15, H⟩ := H
  show Ek _ _ _ (va_rf (mP h p2 2) :: _) _ _
  rw [e15]
  refine Ek.chk 2 (fun n => rfl) c4 ?_
  have c16 := H.1
  refine Ek.chk 1 (fun n => rfl) c16 ?_
  replace H := H.2
  have c17 := H.1
  refine Ek.callT 0 (fun n => rfl) c17 ?_
  replace H := H.2
  refine Ek.chk 2 (fun n => rfl) c17 ?_
  obtain ⟨p18, e19, H⟩ := H
  show Ek _ _ _ (va_rf (mP h p5 0) :: _) _ _
  rw [e19]
  have c21 := H.1
  refine Ek.chk 3 (fun n => rfl) c21 ?_
  replace H := H.2
  let h20 : mH := wI h p18 ((mI h a0 2).toNatClampNeg) (mI h p8 ((mI h a0 2).toNatClampNeg))
  replace H := H h20 rfl
  show Ek _ _ _ _ h20 _
  refine Ek.chk 2 (fun n => rfl) c17 ?_
  obtain ⟨p22, e23, H⟩ := H
  show Ek _ _ _ (va_rf (mP h p5 1) :: _) _ _
  rw [e23]
  have c25 := H.1
  refine Ek.chk 3 (fun n => rfl) c25 ?_
  replace H := H.2
  let h24 : mH := wI h20 p22 ((mI h a0 2).toNatClampNeg) (mI h p11 ((mI h a0 2).toNatClampNeg))
  replace H := H h24 rfl
  show Ek _ _ _ _ h24 _
  refine Ek.chk 2 (fun n => rfl) c17 ?_
  obtain ⟨p26, e27, H⟩ := H
  show Ek _ _ _ (va_rf (mP h p5 2) :: _) _ _
  rw [e27]
  have c29 := H.1
  refine Ek.chk 3 (fun n => rfl) c29 ?_
  replace H := H.2
  let h28 : mH := wI h24 p26 ((mI h a0 2).toNatClampNeg) (mI h p14 ((mI h a0 2).toNatClampNeg))
  replace H := H h28 rfl
  show Ek _ _ _ _ h28 _
  refine Ek.ret 1 (fun n => rfl) ?_
  refine Ek.callT 1 (fun n => rfl) c4 ?_
  refine Ek.mono H ?_
  rintro _ h30 ⟨rfl, H⟩
  exact Ek.ret 1 (fun n => rfl) H

