/-! ===== what a run needs, method by method (130 to 146) ===== -/
/-- RoundVotesModel.weight(II)I, from 0 -/
set_option maxRecDepth 4000 in
theorem T130 {a0 : Nat} {a1 : Int32} {a2 : Int32} {h : mH} {K : Option Value → mH → Prop} (H : (mTg h a0 = 12) ∧ (∀ h1, h1 = wI h a0 0 0 → (((lg_cmp (a1).toInt64 0) < 0 → (K (some (.int (-1))) h1)) ∧ (¬ (lg_cmp (a1).toInt64 0) < 0 → (((0 : Int32) < (lg_cmp (a1).toInt64 (((mI h1 a0 1) - 1)).toInt64) → (K (some (.int (-1))) h1)) ∧ (¬ (0 : Int32) < (lg_cmp (a1).toInt64 (((mI h1 a0 1) - 1)).toInt64) → (((lg_cmp (a2).toInt64 1) < 0 → (K (some (.int (-1))) h1)) ∧ (¬ (lg_cmp (a2).toInt64 1) < 0 → (((0 : Int32) < (lg_cmp (a2).toInt64 1000000) → (K (some (.int (-1))) h1)) ∧ (¬ (0 : Int32) < (lg_cmp (a2).toInt64 1000000) → (Ek 130 32 [some (.ref a0), some (.int a1), some (.int a2), some (.int 0), some (.int 0)] [] h1 K))))))))))) : Ek 130 0 [some (.ref a0), some (.int a1), some (.int a2), none, none] [] h K := by
  have c2 := H.1
  refine Ek.chk 3 (fun n => rfl) c2 ?_
  replace H := H.2
  let h1 : mH := wI h a0 0 0
  replace H := H h1 rfl
  show Ek _ _ _ _ h1 _
  refine Ek.callT 2 (fun n => rfl) c2 ?_
  refine Ek.chk 5 (fun n => rfl) c2 ?_
  refine Ek.call 3 (fun n => rfl) ?_
  refine Ek.br 4 (fun n => rfl) (fun hc => ?_) (fun hc => ?_)
  · replace H := H.1 hc
    refine Ek.ret 2 (fun n => rfl) ?_
    refine Ek.ret 4 (fun n => rfl) ?_
    exact Ek.ret 3 (fun n => rfl) H
  · replace H := H.2 hc
    refine Ek.br 4 (fun n => rfl) (fun hc => ?_) (fun hc => ?_)
    · replace H := H.1 hc
      refine Ek.ret 2 (fun n => rfl) ?_
      refine Ek.ret 4 (fun n => rfl) ?_
      exact Ek.ret 3 (fun n => rfl) H
    · replace H := H.2 hc
      refine Ek.ret 3 (fun n => rfl) ?_
      refine Ek.ret 3 (fun n => rfl) ?_
      refine Ek.call 5 (fun n => rfl) ?_
      refine Ek.br 4 (fun n => rfl) (fun hc => ?_) (fun hc => ?_)
      · replace H := H.1 hc
        refine Ek.ret 2 (fun n => rfl) ?_
        exact Ek.ret 3 (fun n => rfl) H
      · replace H := H.2 hc
        refine Ek.br 4 (fun n => rfl) (fun hc => ?_) (fun hc => ?_)
        · replace H := H.1 hc
          refine Ek.ret 2 (fun n => rfl) ?_
          exact Ek.ret 3 (fun n => rfl) H
        · replace H := H.2 hc
          refine Ek.ret 3 (fun n => rfl) ?_
          exact Ek.go 5 (fun n => rfl) H

/-- RoundVotesModel.weight(II)I, from 32 -/
set_option maxRecDepth 4000 in
theorem T130_32 {v0 : Nat} {v1 : Int32} {v2 : Int32} {v3 : Int32} {v4 : Int32} {h : mH} {K : Option Value → mH → Prop} (H : (mTg h v0 = 12) ∧ (((mI h v0 1) ≤ v4 → (Ek 130 83 [some (.ref v0), some (.int v1), some (.int v2), some (.int (v3 + 1)), some (.int (v3 + 1))] [] h K)) ∧ (¬ (mI h v0 1) ≤ v4 → (((mI h v0 3) ≤ 0 → (Ek 130 83 [some (.ref v0), some (.int v1), some (.int v2), some (.int (v3 + 1)), some (.int (v3 + 1))] [] h K)) ∧ (¬ (mI h v0 3) ≤ 0 → (∃ p2, mP h v0 5 = some p2 ∧ (((mTg h p2 = 20 ∨ mTg h p2 = 30) ∧ ¬ v4 < 0 ∧ (v4.toNatClampNeg) < mLn h p2) ∧ (((mI h p2 (v4.toNatClampNeg)) ≤ v3 → (Ek 130 32 [some (.ref v0), some (.int v1), some (.int v2), some (.int v3), some (.int (v4 + 1))] [] h K)) ∧ (¬ (mI h p2 (v4.toNatClampNeg)) ≤ v3 → (Ek 130 32 [some (.ref v0), some (.int v1), some (.int v2), some (.int (mI h p2 (v4.toNatClampNeg))), some (.int (v4 + 1))] [] h K)))))))))) : Ek 130 32 [some (.ref v0), some (.int v1), some (.int v2), some (.int v3), some (.int v4)] [] h K := by
  have c1 := H.1
  refine Ek.chk 3 (fun n => rfl) c1 ?_
  replace H := H.2
  refine Ek.br 1 (fun n => rfl) (fun hc => ?_) (fun hc => ?_)
  · replace H := H.1 hc
    exact Ek.go 3 (fun n => rfl) H
  · replace H := H.2 hc
    refine Ek.chk 2 (fun n => rfl) c1 ?_
    refine Ek.br 1 (fun n => rfl) (fun hc => ?_) (fun hc => ?_)
    · replace H := H.1 hc
      exact Ek.go 3 (fun n => rfl) H
    · replace H := H.2 hc
      refine Ek.chk 2 (fun n => rfl) c1 ?_
      obtain ⟨p2, e3, H⟩ := H
      show Ek _ _ _ (va_rf (mP h v0 5) :: _) _ _
      rw [e3]
      have c4 := H.1
      refine Ek.chk 2 (fun n => rfl) c4 ?_
      replace H := H.2
      refine Ek.br 2 (fun n => rfl) (fun hc => ?_) (fun hc => ?_)
      · replace H := H.1 hc
        exact Ek.go 4 (fun n => rfl) H
      · replace H := H.2 hc
        refine Ek.chk 2 (fun n => rfl) c1 ?_
        show Ek _ _ _ (va_rf (mP h v0 5) :: _) _ _
        rw [e3]
        refine Ek.chk 2 (fun n => rfl) c4 ?_
        exact Ek.go 4 (fun n => rfl) H

/-- RoundVotesModel.weight(II)I, from 83 -/
set_option maxRecDepth 4000 in
theorem T130_83 {v0 : Nat} {v1 : Int32} {v2 : Int32} {v3 : Int32} {v4 : Int32} {h : mH} {K : Option Value → mH → Prop} (H : ((40 : Int32) < v4 → (K (some (.int v3)) h)) ∧ (¬ (40 : Int32) < v4 → ((mTg h v0 = 12) ∧ (∃ p2, mP h v0 4 = some p2 ∧ ((mTg h p2 = 20 ∧ ¬ ((10 * v4) + v1) < 0 ∧ (((10 * v4) + v1).toNatClampNeg) < mLn h p2) ∧ (∀ h4, h4 = wI h p2 (((10 * v4) + v1).toNatClampNeg) v2 → (Ek 130 83 [some (.ref v0), some (.int v1), some (.int v2), some (.int v3), some (.int (v4 + 1))] [] h4 K))))))) : Ek 130 83 [some (.ref v0), some (.int v1), some (.int v2), some (.int v3), some (.int v4)] [] h K := by
  refine Ek.br 3 (fun n => rfl) (fun hc => ?_) (fun hc => ?_)
  · replace H := H.1 hc
    exact Ek.ret 2 (fun n => rfl) H
  · replace H := H.2 hc
    have c1 := H.1
    refine Ek.chk 2 (fun n => rfl) c1 ?_
    replace H := H.2
    obtain ⟨p2, e3, H⟩ := H
    show Ek _ _ _ (va_rf (mP h v0 4) :: _) _ _
    rw [e3]
    have c5 := H.1
    refine Ek.chk 7 (fun n => rfl) c5 ?_
    replace H := H.2
    let h4 : mH := wI h p2 (((10 * v4) + v1).toNatClampNeg) v2
    replace H := H h4 rfl
    show Ek _ _ _ _ h4 _
    exact Ek.go 2 (fun n => rfl) H

/-- RoundVotesModel.noNode(I)Z, from 0 -/
set_option maxRecDepth 4000 in
theorem T131 {a0 : Nat} {a1 : Int32} {h : mH} {K : Option Value → mH → Prop} (H : (mTg h a0 = 12) ∧ (((lg_cmp (a1).toInt64 0) < 0 → (K (some (.int 1)) h)) ∧ (¬ (lg_cmp (a1).toInt64 0) < 0 → (((0 : Int32) < (lg_cmp (a1).toInt64 (((mI h a0 1) - 1)).toInt64) → (K (some (.int 1)) h)) ∧ (¬ (0 : Int32) < (lg_cmp (a1).toInt64 (((mI h a0 1) - 1)).toInt64) → (K (some (.int 0)) h)))))) : Ek 131 0 [some (.ref a0), some (.int a1)] [] h K := by
  have c1 := H.1
  refine Ek.chk 5 (fun n => rfl) c1 ?_
  replace H := H.2
  refine Ek.call 3 (fun n => rfl) ?_
  refine Ek.br 4 (fun n => rfl) (fun hc => ?_) (fun hc => ?_)
  · replace H := H.1 hc
    refine Ek.ret 2 (fun n => rfl) ?_
    exact Ek.ret 4 (fun n => rfl) H
  · replace H := H.2 hc
    refine Ek.br 4 (fun n => rfl) (fun hc => ?_) (fun hc => ?_)
    · replace H := H.1 hc
      refine Ek.ret 2 (fun n => rfl) ?_
      exact Ek.ret 4 (fun n => rfl) H
    · replace H := H.2 hc
      refine Ek.ret 3 (fun n => rfl) ?_
      exact Ek.ret 3 (fun n => rfl) H

/-- RoundVotesModel.behave(II)I, from 0 -/
set_option maxRecDepth 4000 in
theorem T132 {a0 : Nat} {a1 : Int32} {a2 : Int32} {h : mH} {K : Option Value → mH → Prop} (H : (mTg h a0 = 12) ∧ (∀ h1, h1 = wI h a0 0 0 → (((lg_cmp (a1).toInt64 0) < 0 → (K (some (.int (-1))) h1)) ∧ (¬ (lg_cmp (a1).toInt64 0) < 0 → (((0 : Int32) < (lg_cmp (a1).toInt64 (((mI h1 a0 1) - 1)).toInt64) → (K (some (.int (-1))) h1)) ∧ (¬ (0 : Int32) < (lg_cmp (a1).toInt64 (((mI h1 a0 1) - 1)).toInt64) → (((lg_cmp (a2).toInt64 0) < 0 → (K (some (.int (-1))) h1)) ∧ (¬ (lg_cmp (a2).toInt64 0) < 0 → (((0 : Int32) < (lg_cmp (a2).toInt64 5) → (K (some (.int (-1))) h1)) ∧ (¬ (0 : Int32) < (lg_cmp (a2).toInt64 5) → (∃ p3, mP h a0 14 = some p3 ∧ (((mTg h p3 = 20 ∨ mTg h p3 = 30) ∧ ¬ a1 < 0 ∧ (a1.toNatClampNeg) < mLn h p3) ∧ ((mTg h p3 = 20 ∧ ¬ a1 < 0 ∧ (a1.toNatClampNeg) < mLn h p3) ∧ (∀ h7, h7 = wI h1 p3 (a1.toNatClampNeg) a2 → (K (some (.int (mI h1 p3 (a1.toNatClampNeg)))) h7))))))))))))))) : Ek 132 0 [some (.ref a0), some (.int a1), some (.int a2), none] [] h K := by
  have c2 := H.1
  refine Ek.chk 3 (fun n => rfl) c2 ?_
  replace H := H.2
  let h1 : mH := wI h a0 0 0
  replace H := H h1 rfl
  show Ek _ _ _ _ h1 _
  refine Ek.callT 2 (fun n => rfl) c2 ?_
  refine Ek.chk 5 (fun n => rfl) c2 ?_
  refine Ek.call 3 (fun n => rfl) ?_
  refine Ek.br 4 (fun n => rfl) (fun hc => ?_) (fun hc => ?_)
  · replace H := H.1 hc
    refine Ek.ret 2 (fun n => rfl) ?_
    refine Ek.ret 4 (fun n => rfl) ?_
    exact Ek.ret 3 (fun n => rfl) H
  · replace H := H.2 hc
    refine Ek.br 4 (fun n => rfl) (fun hc => ?_) (fun hc => ?_)
    · replace H := H.1 hc
      refine Ek.ret 2 (fun n => rfl) ?_
      refine Ek.ret 4 (fun n => rfl) ?_
      exact Ek.ret 3 (fun n => rfl) H
    · replace H := H.2 hc
      refine Ek.ret 3 (fun n => rfl) ?_
      refine Ek.ret 3 (fun n => rfl) ?_
      refine Ek.call 5 (fun n => rfl) ?_
      refine Ek.br 4 (fun n => rfl) (fun hc => ?_) (fun hc => ?_)
      · replace H := H.1 hc
        refine Ek.ret 2 (fun n => rfl) ?_
        exact Ek.ret 3 (fun n => rfl) H
      · replace H := H.2 hc
        refine Ek.br 4 (fun n => rfl) (fun hc => ?_) (fun hc => ?_)
        · replace H := H.1 hc
          refine Ek.ret 2 (fun n => rfl) ?_
          exact Ek.ret 3 (fun n => rfl) H
        · replace H := H.2 hc
          refine Ek.ret 3 (fun n => rfl) ?_
          refine Ek.chk 3 (fun n => rfl) c2 ?_
          obtain ⟨p3, e4, H⟩ := H
          show Ek _ _ _ (va_rf (mP h a0 14) :: _) _ _
          rw [e4]
          have c5 := H.1
          refine Ek.chk 2 (fun n => rfl) c5 ?_
          replace H := H.2
          refine Ek.chk 3 (fun n => rfl) c2 ?_
          show Ek _ _ _ (va_rf (mP h a0 14) :: _) _ _
          rw [e4]
          have c8 := H.1
          refine Ek.chk 3 (fun n => rfl) c8 ?_
          replace H := H.2
          let h7 : mH := wI h1 p3 (a1.toNatClampNeg) a2
          replace H := H h7 rfl
          show Ek _ _ _ _ h7 _
          exact Ek.ret 2 (fun n => rfl) H

/-- RoundVotesModel.disturb(III)I, from 0 -/
set_option maxRecDepth 4000 in
theorem T133 {a0 : Nat} {a1 : Int32} {a2 : Int32} {a3 : Int32} {h : mH} {K : Option Value → mH → Prop} (H : (mTg h a0 = 12) ∧ (∀ h1, h1 = wI h a0 0 0 → ((a1 < (mI h1 a0 39) → (K (some (.int (-1))) h1)) ∧ (¬ a1 < (mI h1 a0 39) → (((lg_cmp (a2).toInt64 0) < 0 → (K (some (.int (-1))) h1)) ∧ (¬ (lg_cmp (a2).toInt64 0) < 0 → (((0 : Int32) < (lg_cmp (a2).toInt64 2) → (K (some (.int (-1))) h1)) ∧ (¬ (0 : Int32) < (lg_cmp (a2).toInt64 2) → ((a2 = 2 → (((lg_cmp (a3).toInt64 1) < 0 → (K (some (.int (-1))) h1)) ∧ (¬ (lg_cmp (a3).toInt64 1) < 0 → (((0 : Int32) < (lg_cmp (a3).toInt64 20) → (K (some (.int (-1))) h1)) ∧ (¬ (0 : Int32) < (lg_cmp (a3).toInt64 20) → (Ek 133 47 [some (.ref a0), some (.int a1), some (.int a2), some (.int a3), some (.int 0)] [] h1 K)))))) ∧ (¬ a2 = 2 → (Ek 133 47 [some (.ref a0), some (.int a1), some (.int a2), some (.int a3), some (.int 0)] [] h1 K))))))))))) : Ek 133 0 [some (.ref a0), some (.int a1), some (.int a2), some (.int a3), none] [] h K := by
  have c2 := H.1
  refine Ek.chk 3 (fun n => rfl) c2 ?_
  replace H := H.2
  let h1 : mH := wI h a0 0 0
  replace H := H h1 rfl
  show Ek _ _ _ _ h1 _
  refine Ek.chk 3 (fun n => rfl) c2 ?_
  refine Ek.br 1 (fun n => rfl) (fun hc => ?_) (fun hc => ?_)
  · replace H := H.1 hc
    exact Ek.ret 2 (fun n => rfl) H
  · replace H := H.2 hc
    refine Ek.call 4 (fun n => rfl) ?_
    refine Ek.br 4 (fun n => rfl) (fun hc => ?_) (fun hc => ?_)
    · replace H := H.1 hc
      refine Ek.ret 2 (fun n => rfl) ?_
      exact Ek.ret 3 (fun n => rfl) H
    · replace H := H.2 hc
      refine Ek.br 4 (fun n => rfl) (fun hc => ?_) (fun hc => ?_)
      · replace H := H.1 hc
        refine Ek.ret 2 (fun n => rfl) ?_
        exact Ek.ret 3 (fun n => rfl) H
      · replace H := H.2 hc
        refine Ek.ret 3 (fun n => rfl) ?_
        refine Ek.br 4 (fun n => rfl) (fun hc => ?_) (fun hc => ?_)
        · replace H := H.1 hc
          refine Ek.call 4 (fun n => rfl) ?_
          refine Ek.br 4 (fun n => rfl) (fun hc => ?_) (fun hc => ?_)
          · replace H := H.1 hc
            refine Ek.ret 2 (fun n => rfl) ?_
            exact Ek.ret 3 (fun n => rfl) H
          · replace H := H.2 hc
            refine Ek.br 4 (fun n => rfl) (fun hc => ?_) (fun hc => ?_)
            · replace H := H.1 hc
              refine Ek.ret 2 (fun n => rfl) ?_
              exact Ek.ret 3 (fun n => rfl) H
            · replace H := H.2 hc
              refine Ek.ret 3 (fun n => rfl) ?_
              exact Ek.go 3 (fun n => rfl) H
        · replace H := H.2 hc
          exact Ek.go 2 (fun n => rfl) H

/-- RoundVotesModel.disturb(III)I, from 47 -/
set_option maxRecDepth 4000 in
theorem T133_47 {v0 : Nat} {v1 : Int32} {v2 : Int32} {v3 : Int32} {v4 : Int32} {h : mH} {K : Option Value → mH → Prop} (H : (mTg h v0 = 12) ∧ (((mI h v0 45) ≤ v4 → (((mI h v0 45) = 60 → (K (some (.int (-3))) h)) ∧ (¬ (mI h v0 45) = 60 → (∃ p2, mP h v0 42 = some p2 ∧ ((mTg h p2 = 20 ∧ ¬ (mI h v0 45) < 0 ∧ ((mI h v0 45).toNatClampNeg) < mLn h p2) ∧ (∀ h4, h4 = wI h p2 ((mI h v0 45).toNatClampNeg) v1 → (∃ p6, mP h v0 43 = some p6 ∧ ((mTg h p6 = 20 ∧ ¬ (mI h4 v0 45) < 0 ∧ ((mI h4 v0 45).toNatClampNeg) < mLn h p6) ∧ (∀ h8, h8 = wI h4 p6 ((mI h4 v0 45).toNatClampNeg) v2 → (∃ p10, mP h v0 44 = some p10 ∧ ((mTg h p10 = 20 ∧ ¬ (mI h8 v0 45) < 0 ∧ ((mI h8 v0 45).toNatClampNeg) < mLn h p10) ∧ (∀ h12, h12 = wI h8 p10 ((mI h8 v0 45).toNatClampNeg) v3 → (∀ h14, h14 = wI h12 v0 45 ((mI h12 v0 45) + 1) → (K (some (.int (mI h14 v0 45))) h14)))))))))))))) ∧ (¬ (mI h v0 45) ≤ v4 → (∃ p15, mP h v0 42 = some p15 ∧ (((mTg h p15 = 20 ∨ mTg h p15 = 30) ∧ ¬ v4 < 0 ∧ (v4.toNatClampNeg) < mLn h p15) ∧ (((mI h p15 (v4.toNatClampNeg)) = v1 → (K (some (.int (-1))) h)) ∧ (¬ (mI h p15 (v4.toNatClampNeg)) = v1 → (Ek 133 47 [some (.ref v0), some (.int v1), some (.int v2), some (.int v3), some (.int (v4 + 1))] [] h K)))))))) : Ek 133 47 [some (.ref v0), some (.int v1), some (.int v2), some (.int v3), some (.int v4)] [] h K := by
  have c1 := H.1
  refine Ek.chk 3 (fun n => rfl) c1 ?_
  replace H := H.2
  refine Ek.br 1 (fun n => rfl) (fun hc => ?_) (fun hc => ?_)
  · replace H := H.1 hc
    refine Ek.chk 2 (fun n => rfl) c1 ?_
    refine Ek.br 2 (fun n => rfl) (fun hc => ?_) (fun hc => ?_)
    · replace H := H.1 hc
      exact Ek.ret 2 (fun n => rfl) H
    · replace H := H.2 hc
      refine Ek.chk 2 (fun n => rfl) c1 ?_
      obtain ⟨p2, e3, H⟩ := H
      show Ek _ _ _ (va_rf (mP h v0 42) :: _) _ _
      rw [e3]
      refine Ek.chk 2 (fun n => rfl) c1 ?_
      have c5 := H.1
      refine Ek.chk 2 (fun n => rfl) c5 ?_
      replace H := H.2
      let h4 : mH := wI h p2 ((mI h v0 45).toNatClampNeg) v1
      replace H := H h4 rfl
      show Ek _ _ _ _ h4 _
      refine Ek.chk 2 (fun n => rfl) c1 ?_
      obtain ⟨p6, e7, H⟩ := H
      show Ek _ _ _ (va_rf (mP h v0 43) :: _) _ _
      rw [e7]
      refine Ek.chk 2 (fun n => rfl) c1 ?_
      have c9 := H.1
      refine Ek.chk 2 (fun n => rfl) c9 ?_
      replace H := H.2
      let h8 : mH := wI h4 p6 ((mI h4 v0 45).toNatClampNeg) v2
      replace H := H h8 rfl
      show Ek _ _ _ _ h8 _
      refine Ek.chk 2 (fun n => rfl) c1 ?_
      obtain ⟨p10, e11, H⟩ := H
      show Ek _ _ _ (va_rf (mP h v0 44) :: _) _ _
      rw [e11]
      refine Ek.chk 2 (fun n => rfl) c1 ?_
      have c13 := H.1
      refine Ek.chk 2 (fun n => rfl) c13 ?_
      replace H := H.2
      let h12 : mH := wI h8 p10 ((mI h8 v0 45).toNatClampNeg) v3
      replace H := H h12 rfl
      show Ek _ _ _ _ h12 _
      refine Ek.chk 3 (fun n => rfl) c1 ?_
      refine Ek.chk 3 (fun n => rfl) c1 ?_
      let h14 : mH := wI h12 v0 45 ((mI h12 v0 45) + 1)
      replace H := H h14 rfl
      show Ek _ _ _ _ h14 _
      refine Ek.chk 2 (fun n => rfl) c1 ?_
      exact Ek.ret 1 (fun n => rfl) H
  · replace H := H.2 hc
    refine Ek.chk 2 (fun n => rfl) c1 ?_
    obtain ⟨p15, e16, H⟩ := H
    show Ek _ _ _ (va_rf (mP h v0 42) :: _) _ _
    rw [e16]
    have c17 := H.1
    refine Ek.chk 2 (fun n => rfl) c17 ?_
    replace H := H.2
    refine Ek.br 2 (fun n => rfl) (fun hc => ?_) (fun hc => ?_)
    · replace H := H.1 hc
      exact Ek.ret 2 (fun n => rfl) H
    · replace H := H.2 hc
      exact Ek.go 2 (fun n => rfl) H

/-- RoundVotesModel.sides(II)I, from 0 -/
set_option maxRecDepth 4000 in
theorem T134 {a0 : Nat} {a1 : Int32} {a2 : Int32} {h : mH} {K : Option Value → mH → Prop} (H : (mTg h a0 = 12) ∧ (∀ h1, h1 = wI h a0 0 0 → (((lg_cmp (a2).toInt64 1) < 0 → (K (some (.int (-1))) h1)) ∧ (¬ (lg_cmp (a2).toInt64 1) < 0 → (((0 : Int32) < (lg_cmp (a2).toInt64 100) → (K (some (.int (-1))) h1)) ∧ (¬ (0 : Int32) < (lg_cmp (a2).toInt64 100) → (∀ h3, h3 = wI h1 a0 46 a1 → (∀ h4, h4 = wI h3 a0 47 ((mI h3 a0 3) + 1) → (∀ h5, h5 = wI h4 a0 48 ((mI h4 a0 3) + a2) → (K (some (.int 1)) h5)))))))))) : Ek 134 0 [some (.ref a0), some (.int a1), some (.int a2)] [] h K := by
  have c2 := H.1
  refine Ek.chk 3 (fun n => rfl) c2 ?_
  replace H := H.2
  let h1 : mH := wI h a0 0 0
  replace H := H h1 rfl
  show Ek _ _ _ _ h1 _
  refine Ek.call 4 (fun n => rfl) ?_
  refine Ek.br 4 (fun n => rfl) (fun hc => ?_) (fun hc => ?_)
  · replace H := H.1 hc
    refine Ek.ret 2 (fun n => rfl) ?_
    exact Ek.ret 3 (fun n => rfl) H
  · replace H := H.2 hc
    refine Ek.br 4 (fun n => rfl) (fun hc => ?_) (fun hc => ?_)
    · replace H := H.1 hc
      refine Ek.ret 2 (fun n => rfl) ?_
      exact Ek.ret 3 (fun n => rfl) H
    · replace H := H.2 hc
      refine Ek.ret 3 (fun n => rfl) ?_
      refine Ek.chk 4 (fun n => rfl) c2 ?_
      let h3 : mH := wI h1 a0 46 a1
      replace H := H h3 rfl
      show Ek _ _ _ _ h3 _
      refine Ek.chk 3 (fun n => rfl) c2 ?_
      refine Ek.chk 3 (fun n => rfl) c2 ?_
      let h4 : mH := wI h3 a0 47 ((mI h3 a0 3) + 1)
      replace H := H h4 rfl
      show Ek _ _ _ _ h4 _
      refine Ek.chk 3 (fun n => rfl) c2 ?_
      refine Ek.chk 3 (fun n => rfl) c2 ?_
      let h5 : mH := wI h4 a0 48 ((mI h4 a0 3) + a2)
      replace H := H h5 rfl
      show Ek _ _ _ _ h5 _
      exact Ek.ret 2 (fun n => rfl) H

/-- RoundVotesModel.cut(II)I, from 0 -/
set_option maxRecDepth 4000 in
theorem T135 {a0 : Nat} {a1 : Int32} {a2 : Int32} {h : mH} {K : Option Value → mH → Prop} (H : (mTg h a0 = 12) ∧ (∀ h1, h1 = wI h a0 0 0 → (((lg_cmp (a1).toInt64 0) < 0 → (K (some (.int (-1))) h1)) ∧ (¬ (lg_cmp (a1).toInt64 0) < 0 → (((0 : Int32) < (lg_cmp (a1).toInt64 (((mI h1 a0 1) - 1)).toInt64) → (K (some (.int (-1))) h1)) ∧ (¬ (0 : Int32) < (lg_cmp (a1).toInt64 (((mI h1 a0 1) - 1)).toInt64) → (((lg_cmp (a2).toInt64 1) < 0 → (K (some (.int (-1))) h1)) ∧ (¬ (lg_cmp (a2).toInt64 1) < 0 → (((0 : Int32) < (lg_cmp (a2).toInt64 50) → (K (some (.int (-1))) h1)) ∧ (¬ (0 : Int32) < (lg_cmp (a2).toInt64 50) → (∃ p3, mP h a0 13 = some p3 ∧ ((mTg h p3 = 21 ∧ ¬ a1 < 0 ∧ (a1.toNatClampNeg) < mLn h p3) ∧ (((mI h1 p3 (a1.toNatClampNeg)) = 0 → (((mI h1 a0 3) = 0 → (K (some (.int (-2))) h1)) ∧ (¬ (mI h1 a0 3) = 0 → ((mTg h p3 = 21 ∧ ((1 : Int32) = 0 ∨ (1 : Int32) = 1) ∧ ¬ a1 < 0 ∧ (a1.toNatClampNeg) < mLn h p3) ∧ (∀ h7, h7 = wI h1 p3 (a1.toNatClampNeg) 1 → (∃ p9, mP h a0 12 = some p9 ∧ ((mTg h p9 = 20 ∧ ¬ a1 < 0 ∧ (a1.toNatClampNeg) < mLn h p9) ∧ (∀ h11, h11 = wI h7 p9 (a1.toNatClampNeg) ((mI h7 a0 3) + a2) → (K (some (.int 1)) h11))))))))) ∧ (¬ (mI h1 p3 (a1.toNatClampNeg)) = 0 → (K (some (.int (-2))) h1))))))))))))))) : Ek 135 0 [some (.ref a0), some (.int a1), some (.int a2)] [] h K := by
  have c2 := H.1
  refine Ek.chk 3 (fun n => rfl) c2 ?_
  replace H := H.2
  let h1 : mH := wI h a0 0 0
  replace H := H h1 rfl
  show Ek _ _ _ _ h1 _
  refine Ek.callT 2 (fun n => rfl) c2 ?_
  refine Ek.chk 5 (fun n => rfl) c2 ?_
  refine Ek.call 3 (fun n => rfl) ?_
  refine Ek.br 4 (fun n => rfl) (fun hc => ?_) (fun hc => ?_)
  · replace H := H.1 hc
    refine Ek.ret 2 (fun n => rfl) ?_
    refine Ek.ret 4 (fun n => rfl) ?_
    exact Ek.ret 3 (fun n => rfl) H
  · replace H := H.2 hc
    refine Ek.br 4 (fun n => rfl) (fun hc => ?_) (fun hc => ?_)
    · replace H := H.1 hc
      refine Ek.ret 2 (fun n => rfl) ?_
      refine Ek.ret 4 (fun n => rfl) ?_
      exact Ek.ret 3 (fun n => rfl) H
    · replace H := H.2 hc
      refine Ek.ret 3 (fun n => rfl) ?_
      refine Ek.ret 3 (fun n => rfl) ?_
      refine Ek.call 5 (fun n => rfl) ?_
      refine Ek.br 4 (fun n => rfl) (fun hc => ?_) (fun hc => ?_)
      · replace H := H.1 hc
        refine Ek.ret 2 (fun n => rfl) ?_
        exact Ek.ret 3 (fun n => rfl) H
      · replace H := H.2 hc
        refine Ek.br 4 (fun n => rfl) (fun hc => ?_) (fun hc => ?_)
        · replace H := H.1 hc
          refine Ek.ret 2 (fun n => rfl) ?_
          exact Ek.ret 3 (fun n => rfl) H
        · replace H := H.2 hc
          refine Ek.ret 3 (fun n => rfl) ?_
          refine Ek.chk 3 (fun n => rfl) c2 ?_
          obtain ⟨p3, e4, H⟩ := H
          show Ek _ _ _ (va_rf (mP h a0 13) :: _) _ _
          rw [e4]
          have c5 := H.1
          refine Ek.chk 2 (fun n => rfl) c5 ?_
          replace H := H.2
          refine Ek.br 1 (fun n => rfl) (fun hc => ?_) (fun hc => ?_)
          · replace H := H.1 hc
            refine Ek.chk 2 (fun n => rfl) c2 ?_
            refine Ek.br 1 (fun n => rfl) (fun hc => ?_) (fun hc => ?_)
            · replace H := H.1 hc
              exact Ek.ret 2 (fun n => rfl) H
            · replace H := H.2 hc
              refine Ek.chk 2 (fun n => rfl) c2 ?_
              show Ek _ _ _ (va_rf (mP h a0 13) :: _) _ _
              rw [e4]
              have c8 := H.1
              refine Ek.chk 3 (fun n => rfl) c8 ?_
              replace H := H.2
              let h7 : mH := wI h1 p3 (a1.toNatClampNeg) 1
              replace H := H h7 rfl
              show Ek _ _ _ _ h7 _
              refine Ek.chk 2 (fun n => rfl) c2 ?_
              obtain ⟨p9, e10, H⟩ := H
              show Ek _ _ _ (va_rf (mP h a0 12) :: _) _ _
              rw [e10]
              refine Ek.chk 3 (fun n => rfl) c2 ?_
              have c12 := H.1
              refine Ek.chk 3 (fun n => rfl) c12 ?_
              replace H := H.2
              let h11 : mH := wI h7 p9 (a1.toNatClampNeg) ((mI h7 a0 3) + a2)
              replace H := H h11 rfl
              show Ek _ _ _ _ h11 _
              exact Ek.ret 2 (fun n => rfl) H
          · replace H := H.2 hc
            exact Ek.ret 2 (fun n => rfl) H

/-- RoundVotesModel.catchUp(I)I, from 0 -/
set_option maxRecDepth 4000 in
theorem T136 {a0 : Nat} {a1 : Int32} {h : mH} {K : Option Value → mH → Prop} (H : (mTg h a0 = 12) ∧ (∀ h1, h1 = wI h a0 0 0 → (((lg_cmp (a1).toInt64 0) < 0 → (K (some (.int (-1))) h1)) ∧ (¬ (lg_cmp (a1).toInt64 0) < 0 → (((0 : Int32) < (lg_cmp (a1).toInt64 (((mI h1 a0 1) - 1)).toInt64) → (K (some (.int (-1))) h1)) ∧ (¬ (0 : Int32) < (lg_cmp (a1).toInt64 (((mI h1 a0 1) - 1)).toInt64) → (∃ p3, mP h a0 13 = some p3 ∧ ((mTg h p3 = 21 ∧ ¬ a1 < 0 ∧ (a1.toNatClampNeg) < mLn h p3) ∧ (((mI h1 p3 (a1.toNatClampNeg)) = 0 → (((mI h1 a0 3) = 0 → (K (some (.int (-2))) h1)) ∧ (¬ (mI h1 a0 3) = 0 → (Ek 136 38 [some (.ref a0), some (.int a1), some (.int 0), some (.int 1), none, none, none, none] [] h1 K)))) ∧ (¬ (mI h1 p3 (a1.toNatClampNeg)) = 0 → (K (some (.int (-2))) h1))))))))))) : Ek 136 0 [some (.ref a0), some (.int a1), none, none, none, none, none, none] [] h K := by
  have c2 := H.1
  refine Ek.chk 3 (fun n => rfl) c2 ?_
  replace H := H.2
  let h1 : mH := wI h a0 0 0
  replace H := H h1 rfl
  show Ek _ _ _ _ h1 _
  refine Ek.callT 2 (fun n => rfl) c2 ?_
  refine Ek.chk 5 (fun n => rfl) c2 ?_
  refine Ek.call 3 (fun n => rfl) ?_
  refine Ek.br 4 (fun n => rfl) (fun hc => ?_) (fun hc => ?_)
  · replace H := H.1 hc
    refine Ek.ret 2 (fun n => rfl) ?_
    refine Ek.ret 4 (fun n => rfl) ?_
    exact Ek.ret 3 (fun n => rfl) H
  · replace H := H.2 hc
    refine Ek.br 4 (fun n => rfl) (fun hc => ?_) (fun hc => ?_)
    · replace H := H.1 hc
      refine Ek.ret 2 (fun n => rfl) ?_
      refine Ek.ret 4 (fun n => rfl) ?_
      exact Ek.ret 3 (fun n => rfl) H
    · replace H := H.2 hc
      refine Ek.ret 3 (fun n => rfl) ?_
      refine Ek.ret 3 (fun n => rfl) ?_
      refine Ek.chk 3 (fun n => rfl) c2 ?_
      obtain ⟨p3, e4, H⟩ := H
      show Ek _ _ _ (va_rf (mP h a0 13) :: _) _ _
      rw [e4]
      have c5 := H.1
      refine Ek.chk 2 (fun n => rfl) c5 ?_
      replace H := H.2
      refine Ek.br 1 (fun n => rfl) (fun hc => ?_) (fun hc => ?_)
      · replace H := H.1 hc
        refine Ek.chk 2 (fun n => rfl) c2 ?_
        refine Ek.br 1 (fun n => rfl) (fun hc => ?_) (fun hc => ?_)
        · replace H := H.1 hc
          exact Ek.ret 2 (fun n => rfl) H
        · replace H := H.2 hc
          exact Ek.go 4 (fun n => rfl) H
      · replace H := H.2 hc
        exact Ek.ret 2 (fun n => rfl) H

/-- RoundVotesModel.catchUp(I)I, from 38 -/
set_option maxRecDepth 4000 in
theorem T136_38 {v0 : Nat} {v1 : Int32} {v2 : Int32} {v3 : Int32} {h : mH} {K : Option Value → mH → Prop} (H : (v3 = 0 → ((v2 ≤ 0 → (K (some (.int v2)) h)) ∧ (¬ v2 ≤ 0 → ((mTg h v0 = 12) ∧ (∃ p2, mP h v0 5 = some p2 ∧ (((mTg h p2 = 20 ∨ mTg h p2 = 30) ∧ ¬ v1 < 0 ∧ (v1.toNatClampNeg) < mLn h p2) ∧ (((40 : Int32) < (mI h p2 (v1.toNatClampNeg)) → (K (some (.int v2)) h)) ∧ (¬ (40 : Int32) < (mI h p2 (v1.toNatClampNeg)) → (Ek 99 0 [some (.ref v0), some (.int v1), some (.int 0), none] [] h (fun r h5 => r = none ∧ ((mTg h5 v0 = 12) ∧ (Ek 111 0 [some (.ref v0), some (.int v1), none] [] h5 (fun r h7 => r = none ∧ (K (some (.int v2)) h7)))))))))))))) ∧ (¬ v3 = 0 → ((mTg h v0 = 12) ∧ (∃ p9, mP h v0 5 = some p9 ∧ (((mTg h p9 = 20 ∨ mTg h p9 = 30) ∧ ¬ v1 < 0 ∧ (v1.toNatClampNeg) < mLn h p9) ∧ (Ek 136 55 [some (.ref v0), some (.int v1), some (.int v2), some (.int 0), some (.int (mI h p9 (v1.toNatClampNeg))), some (.int 0), none, none] [] h K)))))) : Ek 136 38 [some (.ref v0), some (.int v1), some (.int v2), some (.int v3), none, none, none, none] [] h K := by
  refine Ek.br 2 (fun n => rfl) (fun hc => ?_) (fun hc => ?_)
  · replace H := H.1 hc
    refine Ek.br 2 (fun n => rfl) (fun hc => ?_) (fun hc => ?_)
    · replace H := H.1 hc
      exact Ek.ret 2 (fun n => rfl) H
    · replace H := H.2 hc
      have c1 := H.1
      refine Ek.chk 2 (fun n => rfl) c1 ?_
      replace H := H.2
      obtain ⟨p2, e3, H⟩ := H
      show Ek _ _ _ (va_rf (mP h v0 5) :: _) _ _
      rw [e3]
      have c4 := H.1
      refine Ek.chk 2 (fun n => rfl) c4 ?_
      replace H := H.2
      refine Ek.br 2 (fun n => rfl) (fun hc => ?_) (fun hc => ?_)
      · replace H := H.1 hc
        exact Ek.ret 2 (fun n => rfl) H
      · replace H := H.2 hc
        refine Ek.callT 3 (fun n => rfl) c1 ?_
        refine Ek.mono H ?_
        rintro _ h5 ⟨rfl, H⟩
        have c6 := H.1
        refine Ek.callT 2 (fun n => rfl) c6 ?_
        replace H := H.2
        refine Ek.mono H ?_
        rintro _ h7 ⟨rfl, H⟩
        exact Ek.ret 2 (fun n => rfl) H
  · replace H := H.2 hc
    have c8 := H.1
    refine Ek.chk 4 (fun n => rfl) c8 ?_
    replace H := H.2
    obtain ⟨p9, e10, H⟩ := H
    show Ek _ _ _ (va_rf (mP h v0 5) :: _) _ _
    rw [e10]
    have c11 := H.1
    refine Ek.chk 2 (fun n => rfl) c11 ?_
    replace H := H.2
    exact Ek.go 3 (fun n => rfl) H

/-- RoundVotesModel.catchUp(I)I, from 55 -/
set_option maxRecDepth 4000 in
theorem T136_55 {v0 : Nat} {v1 : Int32} {v2 : Int32} {v3 : Int32} {v4 : Int32} {v5 : Int32} {h : mH} {K : Option Value → mH → Prop} (H : (mTg h v0 = 12) ∧ (((mI h v0 1) ≤ v5 → (Ek 136 38 [some (.ref v0), some (.int v1), some (.int v2), some (.int v3), some (.int v4), some (.int v5), none, none] [] h K)) ∧ (¬ (mI h v0 1) ≤ v5 → ((v3 = 0 → (((40 : Int32) < v4 → (Ek 136 38 [some (.ref v0), some (.int v1), some (.int v2), some (.int v3), some (.int v4), some (.int v5), none, none] [] h K)) ∧ (¬ (40 : Int32) < v4 → ((v5 = v1 → (Ek 136 55 [some (.ref v0), some (.int v1), some (.int v2), some (.int v3), some (.int v4), some (.int (v5 + 1)), none, none] [] h K)) ∧ (¬ v5 = v1 → (∃ p2, mP h v0 13 = some p2 ∧ ((mTg h p2 = 21 ∧ ¬ v5 < 0 ∧ (v5.toNatClampNeg) < mLn h p2) ∧ (((mI h p2 (v5.toNatClampNeg)) = 0 → (∃ p5, mP h v0 24 = some p5 ∧ (((mTg h p5 = 20 ∨ mTg h p5 = 30) ∧ ¬ ((10 * v4) + v5) < 0 ∧ (((10 * v4) + v5).toNatClampNeg) < mLn h p5) ∧ (((mI h p5 (((10 * v4) + v5).toNatClampNeg)) ≤ 0 → (Ek 136 55 [some (.ref v0), some (.int v1), some (.int v2), some (.int v3), some (.int v4), some (.int (v5 + 1)), none, none] [] h K)) ∧ (¬ (mI h p5 (((10 * v4) + v5).toNatClampNeg)) ≤ 0 → ((mTg h p5 = 20 ∧ ¬ ((10 * v4) + v1) < 0 ∧ (((10 * v4) + v1).toNatClampNeg) < mLn h p5) ∧ (∀ h10, h10 = wI h p5 (((10 * v4) + v1).toNatClampNeg) (mI h p5 (((10 * v4) + v5).toNatClampNeg)) → (∃ p12, mP h v0 25 = some p12 ∧ (((mTg h p12 = 20 ∨ mTg h p12 = 30) ∧ ¬ ((10 * v4) + v5) < 0 ∧ (((10 * v4) + v5).toNatClampNeg) < mLn h p12) ∧ ((mTg h p12 = 20 ∧ ¬ ((10 * v4) + v1) < 0 ∧ (((10 * v4) + v1).toNatClampNeg) < mLn h p12) ∧ (∀ h16, h16 = wI h10 p12 (((10 * v4) + v1).toNatClampNeg) (mI h10 p12 (((10 * v4) + v5).toNatClampNeg)) → (∃ p18, mP h v0 26 = some p18 ∧ (((mTg h p18 = 20 ∨ mTg h p18 = 30) ∧ ¬ ((10 * v4) + v5) < 0 ∧ (((10 * v4) + v5).toNatClampNeg) < mLn h p18) ∧ ((mTg h p18 = 20 ∧ ¬ ((10 * v4) + v1) < 0 ∧ (((10 * v4) + v1).toNatClampNeg) < mLn h p18) ∧ (∀ h22, h22 = wI h16 p18 (((10 * v4) + v1).toNatClampNeg) (mI h16 p18 (((10 * v4) + v5).toNatClampNeg)) → (∃ p24, mP h v0 27 = some p24 ∧ ((mTg h p24 = 22 ∧ ¬ ((10 * v4) + v5) < 0 ∧ (((10 * v4) + v5).toNatClampNeg) < mLn h p24) ∧ ((mTg h p24 = 22 ∧ ¬ ((10 * v4) + v1) < 0 ∧ (((10 * v4) + v1).toNatClampNeg) < mLn h p24) ∧ (∀ h28, h28 = wJ h22 p24 (((10 * v4) + v1).toNatClampNeg) (mJ h22 p24 (((10 * v4) + v5).toNatClampNeg)) → (Ek 118 0 [some (.ref v0), some (.int v1), none] [] h28 (fun r h30 => r = none ∧ (Ek 136 55 [some (.ref v0), some (.int v1), some (.int (v2 + 1)), some (.int 1), some (.int v4), some (.int (v5 + 1)), some (.int ((10 * v4) + v1)), some (.int ((10 * v4) + v5))] [] h30 K)))))))))))))))))))))) ∧ (¬ (mI h p2 (v5.toNatClampNeg)) = 0 → (Ek 136 55 [some (.ref v0), some (.int v1), some (.int v2), some (.int v3), some (.int v4), some (.int (v5 + 1)), none, none] [] h K)))))))))) ∧ (¬ v3 = 0 → (Ek 136 38 [some (.ref v0), some (.int v1), some (.int v2), some (.int v3), some (.int v4), some (.int v5), none, none] [] h K)))))) : Ek 136 55 [some (.ref v0), some (.int v1), some (.int v2), some (.int v3), some (.int v4), some (.int v5), none, none] [] h K := by
  have c1 := H.1
  refine Ek.chk 3 (fun n => rfl) c1 ?_
  replace H := H.2
  refine Ek.br 1 (fun n => rfl) (fun hc => ?_) (fun hc => ?_)
  · replace H := H.1 hc
    exact Ek.go 1 (fun n => rfl) H
  · replace H := H.2 hc
    refine Ek.br 2 (fun n => rfl) (fun hc => ?_) (fun hc => ?_)
    · replace H := H.1 hc
      refine Ek.br 3 (fun n => rfl) (fun hc => ?_) (fun hc => ?_)
      · replace H := H.1 hc
        exact Ek.go 1 (fun n => rfl) H
      · replace H := H.2 hc
        refine Ek.br 3 (fun n => rfl) (fun hc => ?_) (fun hc => ?_)
        · replace H := H.1 hc
          exact Ek.go 2 (fun n => rfl) H
        · replace H := H.2 hc
          refine Ek.chk 2 (fun n => rfl) c1 ?_
          obtain ⟨p2, e3, H⟩ := H
          show Ek _ _ _ (va_rf (mP h v0 13) :: _) _ _
          rw [e3]
          have c4 := H.1
          refine Ek.chk 2 (fun n => rfl) c4 ?_
          replace H := H.2
          refine Ek.br 1 (fun n => rfl) (fun hc => ?_) (fun hc => ?_)
          · replace H := H.1 hc
            refine Ek.chk 2 (fun n => rfl) c1 ?_
            obtain ⟨p5, e6, H⟩ := H
            show Ek _ _ _ (va_rf (mP h v0 24) :: _) _ _
            rw [e6]
            have c7 := H.1
            refine Ek.chk 6 (fun n => rfl) c7 ?_
            replace H := H.2
            refine Ek.br 1 (fun n => rfl) (fun hc => ?_) (fun hc => ?_)
            · replace H := H.1 hc
              exact Ek.go 2 (fun n => rfl) H
            · replace H := H.2 hc
              refine Ek.chk 14 (fun n => rfl) c1 ?_
              show Ek _ _ _ (va_rf (mP h v0 24) :: _) _ _
              rw [e6]
              refine Ek.chk 3 (fun n => rfl) c1 ?_
              show Ek _ _ _ (va_rf (mP h v0 24) :: _) _ _
              rw [e6]
              refine Ek.chk 2 (fun n => rfl) c7 ?_
              have c11 := H.1
              refine Ek.chk 1 (fun n => rfl) c11 ?_
              replace H := H.2
              let h10 : mH := wI h p5 (((10 * v4) + v1).toNatClampNeg) (mI h p5 (((10 * v4) + v5).toNatClampNeg))
              replace H := H h10 rfl
              show Ek _ _ _ _ h10 _
              refine Ek.chk 2 (fun n => rfl) c1 ?_
              obtain ⟨p12, e13, H⟩ := H
              show Ek _ _ _ (va_rf (mP h v0 25) :: _) _ _
              rw [e13]
              refine Ek.chk 3 (fun n => rfl) c1 ?_
              show Ek _ _ _ (va_rf (mP h v0 25) :: _) _ _
              rw [e13]
              have c15 := H.1
              refine Ek.chk 2 (fun n => rfl) c15 ?_
              replace H := H.2
              have c17 := H.1
              refine Ek.chk 1 (fun n => rfl) c17 ?_
              replace H := H.2
              let h16 : mH := wI h10 p12 (((10 * v4) + v1).toNatClampNeg) (mI h10 p12 (((10 * v4) + v5).toNatClampNeg))
              replace H := H h16 rfl
              show Ek _ _ _ _ h16 _
              refine Ek.chk 2 (fun n => rfl) c1 ?_
              obtain ⟨p18, e19, H⟩ := H
              show Ek _ _ _ (va_rf (mP h v0 26) :: _) _ _
              rw [e19]
              refine Ek.chk 3 (fun n => rfl) c1 ?_
              show Ek _ _ _ (va_rf (mP h v0 26) :: _) _ _
              rw [e19]
              have c21 := H.1
              refine Ek.chk 2 (fun n => rfl) c21 ?_
              replace H := H.2
              have c23 := H.1
              refine Ek.chk 1 (fun n => rfl) c23 ?_
              replace H := H.2
              let h22 : mH := wI h16 p18 (((10 * v4) + v1).toNatClampNeg) (mI h16 p18 (((10 * v4) + v5).toNatClampNeg))
              replace H := H h22 rfl
              show Ek _ _ _ _ h22 _
              refine Ek.chk 2 (fun n => rfl) c1 ?_
              obtain ⟨p24, e25, H⟩ := H
              show Ek _ _ _ (va_rf (mP h v0 27) :: _) _ _
              rw [e25]
              refine Ek.chk 3 (fun n => rfl) c1 ?_
              show Ek _ _ _ (va_rf (mP h v0 27) :: _) _ _
              rw [e25]
              have c27 := H.1
              refine Ek.chk 2 (fun n => rfl) c27 ?_
              replace H := H.2
              have c29 := H.1
              refine Ek.chk 1 (fun n => rfl) c29 ?_
              replace H := H.2
              let h28 : mH := wJ h22 p24 (((10 * v4) + v1).toNatClampNeg) (mJ h22 p24 (((10 * v4) + v5).toNatClampNeg))
              replace H := H h28 rfl
              show Ek _ _ _ _ h28 _
              refine Ek.callT 2 (fun n => rfl) c1 ?_
              refine Ek.mono H ?_
              rintro _ h30 ⟨rfl, H⟩
              exact Ek.go 5 (fun n => rfl) H
          · replace H := H.2 hc
            exact Ek.go 2 (fun n => rfl) H
    · replace H := H.2 hc
      exact Ek.go 1 (fun n => rfl) H

/-- RoundVotesModel.node(II)I, from 0 -/
set_option maxRecDepth 4000 in
theorem T137 {a0 : Nat} {a1 : Int32} {a2 : Int32} {h : mH} {K : Option Value → mH → Prop} (H : (mTg h a0 = 12) ∧ (∀ h1, h1 = wI h a0 0 0 → (((lg_cmp (a1).toInt64 0) < 0 → (K (some (.int (-1))) h1)) ∧ (¬ (lg_cmp (a1).toInt64 0) < 0 → (((0 : Int32) < (lg_cmp (a1).toInt64 (((mI h1 a0 1) - 1)).toInt64) → (K (some (.int (-1))) h1)) ∧ (¬ (0 : Int32) < (lg_cmp (a1).toInt64 (((mI h1 a0 1) - 1)).toInt64) → (((lg_cmp (a2).toInt64 0) < 0 → (K (some (.int (-1))) h1)) ∧ (¬ (lg_cmp (a2).toInt64 0) < 0 → (((0 : Int32) < (lg_cmp (a2).toInt64 12) → (K (some (.int (-1))) h1)) ∧ (¬ (0 : Int32) < (lg_cmp (a2).toInt64 12) → ((a2 = 0 → (∃ p4, mP h a0 5 = some p4 ∧ (((mTg h p4 = 20 ∨ mTg h p4 = 30) ∧ ¬ a1 < 0 ∧ (a1.toNatClampNeg) < mLn h p4) ∧ (K (some (.int (mI h1 p4 (a1.toNatClampNeg)))) h1)))) ∧ (a2 = 1 → (∃ p8, mP h a0 6 = some p8 ∧ (((mTg h p8 = 20 ∨ mTg h p8 = 30) ∧ ¬ a1 < 0 ∧ (a1.toNatClampNeg) < mLn h p8) ∧ (K (some (.int (mI h1 p8 (a1.toNatClampNeg)))) h1)))) ∧ (a2 = 2 → (∃ p12, mP h a0 7 = some p12 ∧ (((mTg h p12 = 20 ∨ mTg h p12 = 30) ∧ ¬ a1 < 0 ∧ (a1.toNatClampNeg) < mLn h p12) ∧ (K (some (.int (mI h1 p12 (a1.toNatClampNeg)))) h1)))) ∧ (a2 = 3 → (∃ p16, mP h a0 8 = some p16 ∧ (((mTg h p16 = 20 ∨ mTg h p16 = 30) ∧ ¬ a1 < 0 ∧ (a1.toNatClampNeg) < mLn h p16) ∧ (K (some (.int (mI h1 p16 (a1.toNatClampNeg)))) h1)))) ∧ (a2 = 4 → (∃ p20, mP h a0 9 = some p20 ∧ (((mTg h p20 = 20 ∨ mTg h p20 = 30) ∧ ¬ a1 < 0 ∧ (a1.toNatClampNeg) < mLn h p20) ∧ (K (some (.int (mI h1 p20 (a1.toNatClampNeg)))) h1)))) ∧ (a2 = 5 → (∃ p24, mP h a0 10 = some p24 ∧ (((mTg h p24 = 20 ∨ mTg h p24 = 30) ∧ ¬ a1 < 0 ∧ (a1.toNatClampNeg) < mLn h p24) ∧ (K (some (.int (mI h1 p24 (a1.toNatClampNeg)))) h1)))) ∧ (a2 = 6 → (∃ p28, mP h a0 11 = some p28 ∧ (((mTg h p28 = 20 ∨ mTg h p28 = 30) ∧ ¬ a1 < 0 ∧ (a1.toNatClampNeg) < mLn h p28) ∧ (K (some (.int (mI h1 p28 (a1.toNatClampNeg)))) h1)))) ∧ (a2 = 7 → (∃ p32, mP h a0 13 = some p32 ∧ ((mTg h p32 = 21 ∧ ¬ a1 < 0 ∧ (a1.toNatClampNeg) < mLn h p32) ∧ (((mI h1 p32 (a1.toNatClampNeg)) = 0 → (K (some (.int 0)) h1)) ∧ (¬ (mI h1 p32 (a1.toNatClampNeg)) = 0 → (∃ p35, mP h a0 12 = some p35 ∧ (((mTg h p35 = 20 ∨ mTg h p35 = 30) ∧ ¬ a1 < 0 ∧ (a1.toNatClampNeg) < mLn h p35) ∧ (K (some (.int ((mI h1 p35 (a1.toNatClampNeg)) - (mI h1 a0 3)))) h1)))))))) ∧ (a2 = 8 → (∃ p39, mP h a0 14 = some p39 ∧ (((mTg h p39 = 20 ∨ mTg h p39 = 30) ∧ ¬ a1 < 0 ∧ (a1.toNatClampNeg) < mLn h p39) ∧ (K (some (.int (mI h1 p39 (a1.toNatClampNeg)))) h1)))) ∧ (a2 = 9 → (∃ p43, mP h a0 15 = some p43 ∧ (((mTg h p43 = 20 ∨ mTg h p43 = 30) ∧ ¬ (((3 * a1) + 9) - 9) < 0 ∧ ((((3 * a1) + 9) - 9).toNatClampNeg) < mLn h p43) ∧ (K (some (.int (mI h1 p43 ((((3 * a1) + 9) - 9).toNatClampNeg)))) h1)))) ∧ (a2 = 10 → (∃ p47, mP h a0 15 = some p47 ∧ (((mTg h p47 = 20 ∨ mTg h p47 = 30) ∧ ¬ (((3 * a1) + 10) - 9) < 0 ∧ ((((3 * a1) + 10) - 9).toNatClampNeg) < mLn h p47) ∧ (K (some (.int (mI h1 p47 ((((3 * a1) + 10) - 9).toNatClampNeg)))) h1)))) ∧ (a2 = 11 → (∃ p51, mP h a0 15 = some p51 ∧ (((mTg h p51 = 20 ∨ mTg h p51 = 30) ∧ ¬ (((3 * a1) + 11) - 9) < 0 ∧ ((((3 * a1) + 11) - 9).toNatClampNeg) < mLn h p51) ∧ (K (some (.int (mI h1 p51 ((((3 * a1) + 11) - 9).toNatClampNeg)))) h1)))) ∧ (a2 = 12 → (∃ p55, mP h a0 19 = some p55 ∧ (((mTg h p55 = 20 ∨ mTg h p55 = 30) ∧ ¬ a1 < 0 ∧ (a1.toNatClampNeg) < mLn h p55) ∧ (K (some (.int (mI h1 p55 (a1.toNatClampNeg)))) h1)))) ∧ (¬ a2 = 0 → ((¬ a2 = 1 → ((¬ a2 = 2 → ((¬ a2 = 3 → ((¬ a2 = 4 → ((¬ a2 = 5 → ((¬ a2 = 6 → ((¬ a2 = 7 → ((¬ a2 = 8 → ((¬ a2 = 9 → ((¬ a2 = 10 → ((¬ a2 = 11 → ((¬ a2 = 12 → (∃ p58, mP h a0 15 = some p58 ∧ (((mTg h p58 = 20 ∨ mTg h p58 = 30) ∧ ¬ (((3 * a1) + a2) - 9) < 0 ∧ ((((3 * a1) + a2) - 9).toNatClampNeg) < mLn h p58) ∧ (K (some (.int (mI h1 p58 ((((3 * a1) + a2) - 9).toNatClampNeg)))) h1))))))))))))))))))))))))))))))))))))))) : Ek 137 0 [some (.ref a0), some (.int a1), some (.int a2)] [] h K := by
  have c2 := H.1
  refine Ek.chk 3 (fun n => rfl) c2 ?_
  replace H := H.2
  let h1 : mH := wI h a0 0 0
  replace H := H h1 rfl
  show Ek _ _ _ _ h1 _
  refine Ek.callT 2 (fun n => rfl) c2 ?_
  refine Ek.chk 5 (fun n => rfl) c2 ?_
  refine Ek.call 3 (fun n => rfl) ?_
  refine Ek.br 4 (fun n => rfl) (fun hc => ?_) (fun hc => ?_)
  · replace H := H.1 hc
    refine Ek.ret 2 (fun n => rfl) ?_
    refine Ek.ret 4 (fun n => rfl) ?_
    exact Ek.ret 3 (fun n => rfl) H
  · replace H := H.2 hc
    refine Ek.br 4 (fun n => rfl) (fun hc => ?_) (fun hc => ?_)
    · replace H := H.1 hc
      refine Ek.ret 2 (fun n => rfl) ?_
      refine Ek.ret 4 (fun n => rfl) ?_
      exact Ek.ret 3 (fun n => rfl) H
    · replace H := H.2 hc
      refine Ek.ret 3 (fun n => rfl) ?_
      refine Ek.ret 3 (fun n => rfl) ?_
      refine Ek.call 5 (fun n => rfl) ?_
      refine Ek.br 4 (fun n => rfl) (fun hc => ?_) (fun hc => ?_)
      · replace H := H.1 hc
        refine Ek.ret 2 (fun n => rfl) ?_
        exact Ek.ret 3 (fun n => rfl) H
      · replace H := H.2 hc
        refine Ek.br 4 (fun n => rfl) (fun hc => ?_) (fun hc => ?_)
        · replace H := H.1 hc
          refine Ek.ret 2 (fun n => rfl) ?_
          exact Ek.ret 3 (fun n => rfl) H
        · replace H := H.2 hc
          refine Ek.ret 3 (fun n => rfl) ?_
          refine Ek.go 2 (fun n => rfl) ?_
          by_cases q3 : a2 = 0
          · replace H := H.1 q3
            rw [q3]
            refine Ek.go 1 (fun n => rfl) ?_
            refine Ek.chk 2 (fun n => rfl) c2 ?_
            obtain ⟨p4, e5, H⟩ := H
            show Ek _ _ _ (va_rf (mP h a0 5) :: _) _ _
            rw [e5]
            have c6 := H.1
            refine Ek.chk 2 (fun n => rfl) c6 ?_
            replace H := H.2
            exact Ek.ret 1 (fun n => rfl) H
          replace H := H.2
          by_cases q7 : a2 = 1
          · replace H := H.1 q7
            rw [q7]
            refine Ek.go 1 (fun n => rfl) ?_
            refine Ek.chk 2 (fun n => rfl) c2 ?_
            obtain ⟨p8, e9, H⟩ := H
            show Ek _ _ _ (va_rf (mP h a0 6) :: _) _ _
            rw [e9]
            have c10 := H.1
            refine Ek.chk 2 (fun n => rfl) c10 ?_
            replace H := H.2
            exact Ek.ret 1 (fun n => rfl) H
          replace H := H.2
          by_cases q11 : a2 = 2
          · replace H := H.1 q11
            rw [q11]
            refine Ek.go 1 (fun n => rfl) ?_
            refine Ek.chk 2 (fun n => rfl) c2 ?_
            obtain ⟨p12, e13, H⟩ := H
            show Ek _ _ _ (va_rf (mP h a0 7) :: _) _ _
            rw [e13]
            have c14 := H.1
            refine Ek.chk 2 (fun n => rfl) c14 ?_
            replace H := H.2
            exact Ek.ret 1 (fun n => rfl) H
          replace H := H.2
          by_cases q15 : a2 = 3
          · replace H := H.1 q15
            rw [q15]
            refine Ek.go 1 (fun n => rfl) ?_
            refine Ek.chk 2 (fun n => rfl) c2 ?_
            obtain ⟨p16, e17, H⟩ := H
            show Ek _ _ _ (va_rf (mP h a0 8) :: _) _ _
            rw [e17]
            have c18 := H.1
            refine Ek.chk 2 (fun n => rfl) c18 ?_
            replace H := H.2
            exact Ek.ret 1 (fun n => rfl) H
          replace H := H.2
          by_cases q19 : a2 = 4
          · replace H := H.1 q19
            rw [q19]
            refine Ek.go 1 (fun n => rfl) ?_
            refine Ek.chk 2 (fun n => rfl) c2 ?_
            obtain ⟨p20, e21, H⟩ := H
            show Ek _ _ _ (va_rf (mP h a0 9) :: _) _ _
            rw [e21]
            have c22 := H.1
            refine Ek.chk 2 (fun n => rfl) c22 ?_
            replace H := H.2
            exact Ek.ret 1 (fun n => rfl) H
          replace H := H.2
          by_cases q23 : a2 = 5
          · replace H := H.1 q23
            rw [q23]
            refine Ek.go 1 (fun n => rfl) ?_
            refine Ek.chk 2 (fun n => rfl) c2 ?_
            obtain ⟨p24, e25, H⟩ := H
            show Ek _ _ _ (va_rf (mP h a0 10) :: _) _ _
            rw [e25]
            have c26 := H.1
            refine Ek.chk 2 (fun n => rfl) c26 ?_
            replace H := H.2
            exact Ek.ret 1 (fun n => rfl) H
          replace H := H.2
          by_cases q27 : a2 = 6
          · replace H := H.1 q27
            rw [q27]
            refine Ek.go 1 (fun n => rfl) ?_
            refine Ek.chk 2 (fun n => rfl) c2 ?_
            obtain ⟨p28, e29, H⟩ := H
            show Ek _ _ _ (va_rf (mP h a0 11) :: _) _ _
            rw [e29]
            have c30 := H.1
            refine Ek.chk 2 (fun n => rfl) c30 ?_
            replace H := H.2
            exact Ek.ret 1 (fun n => rfl) H
          replace H := H.2
          by_cases q31 : a2 = 7
          · replace H := H.1 q31
            rw [q31]
            refine Ek.go 1 (fun n => rfl) ?_
            refine Ek.chk 2 (fun n => rfl) c2 ?_
            obtain ⟨p32, e33, H⟩ := H
            show Ek _ _ _ (va_rf (mP h a0 13) :: _) _ _
            rw [e33]
            have c34 := H.1
            refine Ek.chk 2 (fun n => rfl) c34 ?_
            replace H := H.2
            refine Ek.br 1 (fun n => rfl) (fun hc => ?_) (fun hc => ?_)
            · replace H := H.1 hc
              exact Ek.ret 2 (fun n => rfl) H
            · replace H := H.2 hc
              refine Ek.chk 2 (fun n => rfl) c2 ?_
              obtain ⟨p35, e36, H⟩ := H
              show Ek _ _ _ (va_rf (mP h a0 12) :: _) _ _
              rw [e36]
              have c37 := H.1
              refine Ek.chk 2 (fun n => rfl) c37 ?_
              replace H := H.2
              refine Ek.chk 2 (fun n => rfl) c2 ?_
              exact Ek.ret 3 (fun n => rfl) H
          replace H := H.2
          by_cases q38 : a2 = 8
          · replace H := H.1 q38
            rw [q38]
            refine Ek.go 1 (fun n => rfl) ?_
            refine Ek.chk 2 (fun n => rfl) c2 ?_
            obtain ⟨p39, e40, H⟩ := H
            show Ek _ _ _ (va_rf (mP h a0 14) :: _) _ _
            rw [e40]
            have c41 := H.1
            refine Ek.chk 2 (fun n => rfl) c41 ?_
            replace H := H.2
            exact Ek.ret 1 (fun n => rfl) H
          replace H := H.2
          by_cases q42 : a2 = 9
          · replace H := H.1 q42
            rw [q42]
            refine Ek.go 1 (fun n => rfl) ?_
            refine Ek.chk 2 (fun n => rfl) c2 ?_
            obtain ⟨p43, e44, H⟩ := H
            show Ek _ _ _ (va_rf (mP h a0 15) :: _) _ _
            rw [e44]
            have c45 := H.1
            refine Ek.chk 8 (fun n => rfl) c45 ?_
            replace H := H.2
            exact Ek.ret 1 (fun n => rfl) H
          replace H := H.2
          by_cases q46 : a2 = 10
          · replace H := H.1 q46
            rw [q46]
            refine Ek.go 1 (fun n => rfl) ?_
            refine Ek.chk 2 (fun n => rfl) c2 ?_
            obtain ⟨p47, e48, H⟩ := H
            show Ek _ _ _ (va_rf (mP h a0 15) :: _) _ _
            rw [e48]
            have c49 := H.1
            refine Ek.chk 8 (fun n => rfl) c49 ?_
            replace H := H.2
            exact Ek.ret 1 (fun n => rfl) H
          replace H := H.2
          by_cases q50 : a2 = 11
          · replace H := H.1 q50
            rw [q50]
            refine Ek.go 1 (fun n => rfl) ?_
            refine Ek.chk 2 (fun n => rfl) c2 ?_
            obtain ⟨p51, e52, H⟩ := H
            show Ek _ _ _ (va_rf (mP h a0 15) :: _) _ _
            rw [e52]
            have c53 := H.1
            refine Ek.chk 8 (fun n => rfl) c53 ?_
            replace H := H.2
            exact Ek.ret 1 (fun n => rfl) H
          replace H := H.2
          by_cases q54 : a2 = 12
          · replace H := H.1 q54
            rw [q54]
            refine Ek.go 1 (fun n => rfl) ?_
            refine Ek.chk 2 (fun n => rfl) c2 ?_
            obtain ⟨p55, e56, H⟩ := H
            show Ek _ _ _ (va_rf (mP h a0 19) :: _) _ _
            rw [e56]
            have c57 := H.1
            refine Ek.chk 2 (fun n => rfl) c57 ?_
            replace H := H.2
            exact Ek.ret 1 (fun n => rfl) H
          replace H := H.2
          replace H := H q3
          replace H := H q7
          replace H := H q11
          replace H := H q15
          replace H := H q19
          replace H := H q23
          replace H := H q27
          replace H := H q31
          replace H := H q38
          replace H := H q42
          replace H := H q46
          replace H := H q50
          replace H := H q54
          have hs : a2 < 0 ∨ 13 ≤ (a2).toNatClampNeg := mSwOut (by decide) (fun j hj => match j, hj with
            | 0, _ => q3
            | 1, _ => q7
            | 2, _ => q11
            | 3, _ => q15
            | 4, _ => q19
            | 5, _ => q23
            | 6, _ => q27
            | 7, _ => q31
            | 8, _ => q38
            | 9, _ => q42
            | 10, _ => q46
            | 11, _ => q50
            | 12, _ => q54
            | j + 13, hj => absurd hj (by omega))
          refine Ek.br 1 (fun n => rfl) (fun _ => ?_) (fun hq => absurd hs hq)
          refine Ek.chk 2 (fun n => rfl) c2 ?_
          obtain ⟨p58, e59, H⟩ := H
          show Ek _ _ _ (va_rf (mP h a0 15) :: _) _ _
          rw [e59]
          have c60 := H.1
          refine Ek.chk 8 (fun n => rfl) c60 ?_
          replace H := H.2
          exact Ek.ret 1 (fun n => rfl) H

/-- RoundVotesModel.vote(IIII)I, from 0 -/
set_option maxRecDepth 4000 in
theorem T138 {a0 : Nat} {a1 : Int32} {a2 : Int32} {a3 : Int32} {a4 : Int32} {h : mH} {K : Option Value → mH → Prop} (H : (mTg h a0 = 12) ∧ (∀ h1, h1 = wI h a0 0 0 → (((lg_cmp (a1).toInt64 0) < 0 → (K (some (.int (-1))) h1)) ∧ (¬ (lg_cmp (a1).toInt64 0) < 0 → (((0 : Int32) < (lg_cmp (a1).toInt64 (((mI h1 a0 1) - 1)).toInt64) → (K (some (.int (-1))) h1)) ∧ (¬ (0 : Int32) < (lg_cmp (a1).toInt64 (((mI h1 a0 1) - 1)).toInt64) → (((lg_cmp (a3).toInt64 0) < 0 → (K (some (.int (-1))) h1)) ∧ (¬ (lg_cmp (a3).toInt64 0) < 0 → (((0 : Int32) < (lg_cmp (a3).toInt64 (((mI h1 a0 1) - 1)).toInt64) → (K (some (.int (-1))) h1)) ∧ (¬ (0 : Int32) < (lg_cmp (a3).toInt64 (((mI h1 a0 1) - 1)).toInt64) → (((lg_cmp (a2).toInt64 0) < 0 → (K (some (.int (-1))) h1)) ∧ (¬ (lg_cmp (a2).toInt64 0) < 0 → (((0 : Int32) < (lg_cmp (a2).toInt64 29) → (K (some (.int (-1))) h1)) ∧ (¬ (0 : Int32) < (lg_cmp (a2).toInt64 29) → (((lg_cmp (a4).toInt64 0) < 0 → (K (some (.int (-1))) h1)) ∧ (¬ (lg_cmp (a4).toInt64 0) < 0 → (((0 : Int32) < (lg_cmp (a4).toInt64 3) → (K (some (.int (-1))) h1)) ∧ (¬ (0 : Int32) < (lg_cmp (a4).toInt64 3) → ((a4 = 3 → (∃ p3, mP h a0 21 = some p3 ∧ (∃ p5, mP h a0 5 = some p5 ∧ (((mTg h p5 = 20 ∨ mTg h p5 = 30) ∧ ¬ a1 < 0 ∧ (a1.toNatClampNeg) < mLn h p5) ∧ ((¬ 2 = 0) ∧ (((mTg h p3 = 20 ∨ mTg h p3 = 30) ∧ ¬ ((((((2 * a1) + ((mI h1 p5 (a1.toNatClampNeg)) - (mI h1 p5 (a1.toNatClampNeg)) / 2 * 2)) * 30) + a2) * 10) + a3) < 0 ∧ (((((((2 * a1) + ((mI h1 p5 (a1.toNatClampNeg)) - (mI h1 p5 (a1.toNatClampNeg)) / 2 * 2)) * 30) + a2) * 10) + a3).toNatClampNeg) < mLn h p3) ∧ (K (some (.int (mI h1 p3 (((((((2 * a1) + ((mI h1 p5 (a1.toNatClampNeg)) - (mI h1 p5 (a1.toNatClampNeg)) / 2 * 2)) * 30) + a2) * 10) + a3).toNatClampNeg)))) h1))))))) ∧ (¬ a4 = 3 → (∃ p10, mP h a0 20 = some p10 ∧ (∃ p12, mP h a0 5 = some p12 ∧ (((mTg h p12 = 20 ∨ mTg h p12 = 30) ∧ ¬ a1 < 0 ∧ (a1.toNatClampNeg) < mLn h p12) ∧ ((¬ 2 = 0) ∧ (((mTg h p10 = 20 ∨ mTg h p10 = 30) ∧ ¬ ((((((((2 * a1) + ((mI h1 p12 (a1.toNatClampNeg)) - (mI h1 p12 (a1.toNatClampNeg)) / 2 * 2)) * 30) + a2) * 10) + a3) * 3) + a4) < 0 ∧ (((((((((2 * a1) + ((mI h1 p12 (a1.toNatClampNeg)) - (mI h1 p12 (a1.toNatClampNeg)) / 2 * 2)) * 30) + a2) * 10) + a3) * 3) + a4).toNatClampNeg) < mLn h p10) ∧ (((0 : Int32) ≤ (mI h1 p10 (((((((((2 * a1) + ((mI h1 p12 (a1.toNatClampNeg)) - (mI h1 p12 (a1.toNatClampNeg)) / 2 * 2)) * 30) + a2) * 10) + a3) * 3) + a4).toNatClampNeg)) → (K (some (.int (mI h1 p10 (((((((((2 * a1) + ((mI h1 p12 (a1.toNatClampNeg)) - (mI h1 p12 (a1.toNatClampNeg)) / 2 * 2)) * 30) + a2) * 10) + a3) * 3) + a4).toNatClampNeg)))) h1)) ∧ (¬ (0 : Int32) ≤ (mI h1 p10 (((((((((2 * a1) + ((mI h1 p12 (a1.toNatClampNeg)) - (mI h1 p12 (a1.toNatClampNeg)) / 2 * 2)) * 30) + a2) * 10) + a3) * 3) + a4).toNatClampNeg)) → (K (some (.int (-2))) h1)))))))))))))))))))))))))))) : Ek 138 0 [some (.ref a0), some (.int a1), some (.int a2), some (.int a3), some (.int a4), none] [] h K := by
  have c2 := H.1
  refine Ek.chk 3 (fun n => rfl) c2 ?_
  replace H := H.2
  let h1 : mH := wI h a0 0 0
  replace H := H h1 rfl
  show Ek _ _ _ _ h1 _
  refine Ek.callT 2 (fun n => rfl) c2 ?_
  refine Ek.chk 5 (fun n => rfl) c2 ?_
  refine Ek.call 3 (fun n => rfl) ?_
  refine Ek.br 4 (fun n => rfl) (fun hc => ?_) (fun hc => ?_)
  · replace H := H.1 hc
    refine Ek.ret 2 (fun n => rfl) ?_
    refine Ek.ret 4 (fun n => rfl) ?_
    exact Ek.ret 3 (fun n => rfl) H
  · replace H := H.2 hc
    refine Ek.br 4 (fun n => rfl) (fun hc => ?_) (fun hc => ?_)
    · replace H := H.1 hc
      refine Ek.ret 2 (fun n => rfl) ?_
      refine Ek.ret 4 (fun n => rfl) ?_
      exact Ek.ret 3 (fun n => rfl) H
    · replace H := H.2 hc
      refine Ek.ret 3 (fun n => rfl) ?_
      refine Ek.ret 3 (fun n => rfl) ?_
      refine Ek.callT 3 (fun n => rfl) c2 ?_
      refine Ek.chk 5 (fun n => rfl) c2 ?_
      refine Ek.call 3 (fun n => rfl) ?_
      refine Ek.br 4 (fun n => rfl) (fun hc => ?_) (fun hc => ?_)
      · replace H := H.1 hc
        refine Ek.ret 2 (fun n => rfl) ?_
        refine Ek.ret 4 (fun n => rfl) ?_
        exact Ek.ret 3 (fun n => rfl) H
      · replace H := H.2 hc
        refine Ek.br 4 (fun n => rfl) (fun hc => ?_) (fun hc => ?_)
        · replace H := H.1 hc
          refine Ek.ret 2 (fun n => rfl) ?_
          refine Ek.ret 4 (fun n => rfl) ?_
          exact Ek.ret 3 (fun n => rfl) H
        · replace H := H.2 hc
          refine Ek.ret 3 (fun n => rfl) ?_
          refine Ek.ret 3 (fun n => rfl) ?_
          refine Ek.call 5 (fun n => rfl) ?_
          refine Ek.br 4 (fun n => rfl) (fun hc => ?_) (fun hc => ?_)
          · replace H := H.1 hc
            refine Ek.ret 2 (fun n => rfl) ?_
            exact Ek.ret 3 (fun n => rfl) H
          · replace H := H.2 hc
            refine Ek.br 4 (fun n => rfl) (fun hc => ?_) (fun hc => ?_)
            · replace H := H.1 hc
              refine Ek.ret 2 (fun n => rfl) ?_
              exact Ek.ret 3 (fun n => rfl) H
            · replace H := H.2 hc
              refine Ek.ret 3 (fun n => rfl) ?_
              refine Ek.call 5 (fun n => rfl) ?_
              refine Ek.br 4 (fun n => rfl) (fun hc => ?_) (fun hc => ?_)
              · replace H := H.1 hc
                refine Ek.ret 2 (fun n => rfl) ?_
                exact Ek.ret 3 (fun n => rfl) H
              · replace H := H.2 hc
                refine Ek.br 4 (fun n => rfl) (fun hc => ?_) (fun hc => ?_)
                · replace H := H.1 hc
                  refine Ek.ret 2 (fun n => rfl) ?_
                  exact Ek.ret 3 (fun n => rfl) H
                · replace H := H.2 hc
                  refine Ek.ret 3 (fun n => rfl) ?_
                  refine Ek.br 4 (fun n => rfl) (fun hc => ?_) (fun hc => ?_)
                  · replace H := H.1 hc
                    refine Ek.chk 2 (fun n => rfl) c2 ?_
                    obtain ⟨p3, e4, H⟩ := H
                    show Ek _ _ _ (va_rf (mP h a0 21) :: _) _ _
                    rw [e4]
                    refine Ek.chk 4 (fun n => rfl) c2 ?_
                    obtain ⟨p5, e6, H⟩ := H
                    show Ek _ _ _ (va_rf (mP h a0 5) :: _) _ _
                    rw [e6]
                    have c7 := H.1
                    refine Ek.chk 2 (fun n => rfl) c7 ?_
                    replace H := H.2
                    refine Ek.callT 2 (fun n => rfl) c2 ?_
                    have c8 := H.1
                    refine Ek.nch 6 (fun n => rfl) c8 ?_
                    replace H := H.2
                    refine Ek.ret 10 (fun n => rfl) ?_
                    have c9 := H.1
                    refine Ek.chk 1 (fun n => rfl) c9 ?_
                    replace H := H.2
                    exact Ek.ret 1 (fun n => rfl) H
                  · replace H := H.2 hc
                    refine Ek.callT 5 (fun n => rfl) c2 ?_
                    refine Ek.chk 2 (fun n => rfl) c2 ?_
                    obtain ⟨p10, e11, H⟩ := H
                    show Ek _ _ _ (va_rf (mP h a0 20) :: _) _ _
                    rw [e11]
                    refine Ek.chk 4 (fun n => rfl) c2 ?_
                    obtain ⟨p12, e13, H⟩ := H
                    show Ek _ _ _ (va_rf (mP h a0 5) :: _) _ _
                    rw [e13]
                    have c14 := H.1
                    refine Ek.chk 2 (fun n => rfl) c14 ?_
                    replace H := H.2
                    refine Ek.callT 3 (fun n => rfl) c2 ?_
                    have c15 := H.1
                    refine Ek.nch 6 (fun n => rfl) c15 ?_
                    replace H := H.2
                    refine Ek.ret 14 (fun n => rfl) ?_
                    have c16 := H.1
                    refine Ek.chk 1 (fun n => rfl) c16 ?_
                    replace H := H.2
                    refine Ek.ret 1 (fun n => rfl) ?_
                    refine Ek.br 3 (fun n => rfl) (fun hc => ?_) (fun hc => ?_)
                    · replace H := H.1 hc
                      exact Ek.ret 2 (fun n => rfl) H
                    · replace H := H.2 hc
                      exact Ek.ret 3 (fun n => rfl) H

/-- RoundVotesModel.decided(III)I, from 0 -/
set_option maxRecDepth 4000 in
theorem T139 {a0 : Nat} {a1 : Int32} {a2 : Int32} {a3 : Int32} {h : mH} {K : Option Value → mH → Prop} (H : (mTg h a0 = 12) ∧ (∀ h1, h1 = wI h a0 0 0 → (((lg_cmp (a1).toInt64 0) < 0 → (K (some (.int (-1))) h1)) ∧ (¬ (lg_cmp (a1).toInt64 0) < 0 → (((0 : Int32) < (lg_cmp (a1).toInt64 (((mI h1 a0 1) - 1)).toInt64) → (K (some (.int (-1))) h1)) ∧ (¬ (0 : Int32) < (lg_cmp (a1).toInt64 (((mI h1 a0 1) - 1)).toInt64) → (((lg_cmp (a2).toInt64 1) < 0 → (K (some (.int (-1))) h1)) ∧ (¬ (lg_cmp (a2).toInt64 1) < 0 → (((0 : Int32) < (lg_cmp (a2).toInt64 40) → (K (some (.int (-1))) h1)) ∧ (¬ (0 : Int32) < (lg_cmp (a2).toInt64 40) → (((lg_cmp (a3).toInt64 0) < 0 → (K (some (.int (-1))) h1)) ∧ (¬ (lg_cmp (a3).toInt64 0) < 0 → (((0 : Int32) < (lg_cmp (a3).toInt64 3) → (K (some (.int (-1))) h1)) ∧ (¬ (0 : Int32) < (lg_cmp (a3).toInt64 3) → (∃ p3, mP h a0 24 = some p3 ∧ (((mTg h p3 = 20 ∨ mTg h p3 = 30) ∧ ¬ ((10 * a2) + a1) < 0 ∧ (((10 * a2) + a1).toNatClampNeg) < mLn h p3) ∧ (((mI h1 p3 (((10 * a2) + a1).toNatClampNeg)) = 0 → (K (some (.int (-2))) h1)) ∧ (¬ (mI h1 p3 (((10 * a2) + a1).toNatClampNeg)) = 0 → ((a3 = 0 → (K (some (.int (mI h1 p3 (((10 * a2) + a1).toNatClampNeg)))) h1)) ∧ (a3 = 1 → (∃ p9, mP h a0 25 = some p9 ∧ (((mTg h p9 = 20 ∨ mTg h p9 = 30) ∧ ¬ ((10 * a2) + a1) < 0 ∧ (((10 * a2) + a1).toNatClampNeg) < mLn h p9) ∧ (K (some (.int (mI h1 p9 (((10 * a2) + a1).toNatClampNeg)))) h1)))) ∧ (a3 = 2 → (∃ p13, mP h a0 26 = some p13 ∧ (((mTg h p13 = 20 ∨ mTg h p13 = 30) ∧ ¬ ((10 * a2) + a1) < 0 ∧ (((10 * a2) + a1).toNatClampNeg) < mLn h p13) ∧ (K (some (.int (mI h1 p13 (((10 * a2) + a1).toNatClampNeg)))) h1)))) ∧ (¬ a3 = 0 → ((¬ a3 = 1 → ((¬ a3 = 2 → (∃ p16, mP h a0 27 = some p16 ∧ ((mTg h p16 = 22 ∧ ¬ ((10 * a2) + a1) < 0 ∧ (((10 * a2) + a1).toNatClampNeg) < mLn h p16) ∧ (K (some (.int (((mJ h1 p16 (((10 * a2) + a1).toNatClampNeg)) : Int64).toInt32))) h1))))))))))))))))))))))))))) : Ek 139 0 [some (.ref a0), some (.int a1), some (.int a2), some (.int a3), none] [] h K := by
  have c2 := H.1
  refine Ek.chk 3 (fun n => rfl) c2 ?_
  replace H := H.2
  let h1 : mH := wI h a0 0 0
  replace H := H h1 rfl
  show Ek _ _ _ _ h1 _
  refine Ek.callT 2 (fun n => rfl) c2 ?_
  refine Ek.chk 5 (fun n => rfl) c2 ?_
  refine Ek.call 3 (fun n => rfl) ?_
  refine Ek.br 4 (fun n => rfl) (fun hc => ?_) (fun hc => ?_)
  · replace H := H.1 hc
    refine Ek.ret 2 (fun n => rfl) ?_
    refine Ek.ret 4 (fun n => rfl) ?_
    exact Ek.ret 3 (fun n => rfl) H
  · replace H := H.2 hc
    refine Ek.br 4 (fun n => rfl) (fun hc => ?_) (fun hc => ?_)
    · replace H := H.1 hc
      refine Ek.ret 2 (fun n => rfl) ?_
      refine Ek.ret 4 (fun n => rfl) ?_
      exact Ek.ret 3 (fun n => rfl) H
    · replace H := H.2 hc
      refine Ek.ret 3 (fun n => rfl) ?_
      refine Ek.ret 3 (fun n => rfl) ?_
      refine Ek.call 5 (fun n => rfl) ?_
      refine Ek.br 4 (fun n => rfl) (fun hc => ?_) (fun hc => ?_)
      · replace H := H.1 hc
        refine Ek.ret 2 (fun n => rfl) ?_
        exact Ek.ret 3 (fun n => rfl) H
      · replace H := H.2 hc
        refine Ek.br 4 (fun n => rfl) (fun hc => ?_) (fun hc => ?_)
        · replace H := H.1 hc
          refine Ek.ret 2 (fun n => rfl) ?_
          exact Ek.ret 3 (fun n => rfl) H
        · replace H := H.2 hc
          refine Ek.ret 3 (fun n => rfl) ?_
          refine Ek.call 5 (fun n => rfl) ?_
          refine Ek.br 4 (fun n => rfl) (fun hc => ?_) (fun hc => ?_)
          · replace H := H.1 hc
            refine Ek.ret 2 (fun n => rfl) ?_
            exact Ek.ret 3 (fun n => rfl) H
          · replace H := H.2 hc
            refine Ek.br 4 (fun n => rfl) (fun hc => ?_) (fun hc => ?_)
            · replace H := H.1 hc
              refine Ek.ret 2 (fun n => rfl) ?_
              exact Ek.ret 3 (fun n => rfl) H
            · replace H := H.2 hc
              refine Ek.ret 3 (fun n => rfl) ?_
              refine Ek.chk 9 (fun n => rfl) c2 ?_
              obtain ⟨p3, e4, H⟩ := H
              show Ek _ _ _ (va_rf (mP h a0 24) :: _) _ _
              rw [e4]
              have c5 := H.1
              refine Ek.chk 2 (fun n => rfl) c5 ?_
              replace H := H.2
              refine Ek.br 1 (fun n => rfl) (fun hc => ?_) (fun hc => ?_)
              · replace H := H.1 hc
                exact Ek.ret 2 (fun n => rfl) H
              · replace H := H.2 hc
                refine Ek.go 1 (fun n => rfl) ?_
                by_cases q6 : a3 = 0
                · replace H := H.1 q6
                  rw [q6]
                  refine Ek.go 1 (fun n => rfl) ?_
                  refine Ek.chk 2 (fun n => rfl) c2 ?_
                  show Ek _ _ _ (va_rf (mP h a0 24) :: _) _ _
                  rw [e4]
                  refine Ek.chk 2 (fun n => rfl) c5 ?_
                  exact Ek.ret 1 (fun n => rfl) H
                replace H := H.2
                by_cases q8 : a3 = 1
                · replace H := H.1 q8
                  rw [q8]
                  refine Ek.go 1 (fun n => rfl) ?_
                  refine Ek.chk 2 (fun n => rfl) c2 ?_
                  obtain ⟨p9, e10, H⟩ := H
                  show Ek _ _ _ (va_rf (mP h a0 25) :: _) _ _
                  rw [e10]
                  have c11 := H.1
                  refine Ek.chk 2 (fun n => rfl) c11 ?_
                  replace H := H.2
                  exact Ek.ret 1 (fun n => rfl) H
                replace H := H.2
                by_cases q12 : a3 = 2
                · replace H := H.1 q12
                  rw [q12]
                  refine Ek.go 1 (fun n => rfl) ?_
                  refine Ek.chk 2 (fun n => rfl) c2 ?_
                  obtain ⟨p13, e14, H⟩ := H
                  show Ek _ _ _ (va_rf (mP h a0 26) :: _) _ _
                  rw [e14]
                  have c15 := H.1
                  refine Ek.chk 2 (fun n => rfl) c15 ?_
                  replace H := H.2
                  exact Ek.ret 1 (fun n => rfl) H
                replace H := H.2
                replace H := H q6
                replace H := H q8
                replace H := H q12
                have hs : a3 < 0 ∨ 3 ≤ (a3).toNatClampNeg := mSwOut (by decide) (fun j hj => match j, hj with
                  | 0, _ => q6
                  | 1, _ => q8
                  | 2, _ => q12
                  | j + 3, hj => absurd hj (by omega))
                refine Ek.br 1 (fun n => rfl) (fun _ => ?_) (fun hq => absurd hs hq)
                refine Ek.chk 2 (fun n => rfl) c2 ?_
                obtain ⟨p16, e17, H⟩ := H
                show Ek _ _ _ (va_rf (mP h a0 27) :: _) _ _
                rw [e17]
                have c18 := H.1
                refine Ek.chk 2 (fun n => rfl) c18 ?_
                replace H := H.2
                exact Ek.ret 2 (fun n => rfl) H

/-- RoundVotesModel.unlike(I)I, from 0 -/
set_option maxRecDepth 4000 in
theorem T140 {a0 : Nat} {a1 : Int32} {h : mH} {K : Option Value → mH → Prop} (H : (mTg h a0 = 12) ∧ (∀ h1, h1 = wI h a0 0 0 → (((lg_cmp (a1).toInt64 1) < 0 → (K (some (.int (-1))) h1)) ∧ (¬ (lg_cmp (a1).toInt64 1) < 0 → (((0 : Int32) < (lg_cmp (a1).toInt64 40) → (K (some (.int (-1))) h1)) ∧ (¬ (0 : Int32) < (lg_cmp (a1).toInt64 40) → (Ek 140 23 [some (.ref a0), some (.int a1), some (.int 0), some (.int 0), none] [] h1 K))))))) : Ek 140 0 [some (.ref a0), some (.int a1), none, none, none] [] h K := by
  have c2 := H.1
  refine Ek.chk 3 (fun n => rfl) c2 ?_
  replace H := H.2
  let h1 : mH := wI h a0 0 0
  replace H := H h1 rfl
  show Ek _ _ _ _ h1 _
  refine Ek.call 4 (fun n => rfl) ?_
  refine Ek.br 4 (fun n => rfl) (fun hc => ?_) (fun hc => ?_)
  · replace H := H.1 hc
    refine Ek.ret 2 (fun n => rfl) ?_
    exact Ek.ret 3 (fun n => rfl) H
  · replace H := H.2 hc
    refine Ek.br 4 (fun n => rfl) (fun hc => ?_) (fun hc => ?_)
    · replace H := H.1 hc
      refine Ek.ret 2 (fun n => rfl) ?_
      exact Ek.ret 3 (fun n => rfl) H
    · replace H := H.2 hc
      refine Ek.ret 3 (fun n => rfl) ?_
      exact Ek.go 5 (fun n => rfl) H

/-- RoundVotesModel.unlike(I)I, from 23 -/
set_option maxRecDepth 4000 in
theorem T140_23 {v0 : Nat} {v1 : Int32} {v2 : Int32} {v3 : Int32} {h : mH} {K : Option Value → mH → Prop} (H : (mTg h v0 = 12) ∧ (((mI h v0 1) ≤ v3 → (K (some (.int 0)) h)) ∧ (¬ (mI h v0 1) ≤ v3 → (∃ p2, mP h v0 24 = some p2 ∧ (((mTg h p2 = 20 ∨ mTg h p2 = 30) ∧ ¬ ((10 * v1) + v3) < 0 ∧ (((10 * v1) + v3).toNatClampNeg) < mLn h p2) ∧ (((mI h p2 (((10 * v1) + v3).toNatClampNeg)) ≤ 0 → (((mI h p2 (((10 * v1) + v3).toNatClampNeg)) ≤ 0 → (Ek 140 23 [some (.ref v0), some (.int v1), some (.int v2), some (.int (v3 + 1)), some (.int (mI h p2 (((10 * v1) + v3).toNatClampNeg)))] [] h K)) ∧ (¬ (mI h p2 (((10 * v1) + v3).toNatClampNeg)) ≤ 0 → (Ek 140 23 [some (.ref v0), some (.int v1), some (.int (mI h p2 (((10 * v1) + v3).toNatClampNeg))), some (.int (v3 + 1)), some (.int (mI h p2 (((10 * v1) + v3).toNatClampNeg)))] [] h K)))) ∧ (¬ (mI h p2 (((10 * v1) + v3).toNatClampNeg)) ≤ 0 → ((v2 ≤ 0 → (((mI h p2 (((10 * v1) + v3).toNatClampNeg)) ≤ 0 → (Ek 140 23 [some (.ref v0), some (.int v1), some (.int v2), some (.int (v3 + 1)), some (.int (mI h p2 (((10 * v1) + v3).toNatClampNeg)))] [] h K)) ∧ (¬ (mI h p2 (((10 * v1) + v3).toNatClampNeg)) ≤ 0 → (Ek 140 23 [some (.ref v0), some (.int v1), some (.int (mI h p2 (((10 * v1) + v3).toNatClampNeg))), some (.int (v3 + 1)), some (.int (mI h p2 (((10 * v1) + v3).toNatClampNeg)))] [] h K)))) ∧ (¬ v2 ≤ 0 → (((mI h p2 (((10 * v1) + v3).toNatClampNeg)) = v2 → (((mI h p2 (((10 * v1) + v3).toNatClampNeg)) ≤ 0 → (Ek 140 23 [some (.ref v0), some (.int v1), some (.int v2), some (.int (v3 + 1)), some (.int (mI h p2 (((10 * v1) + v3).toNatClampNeg)))] [] h K)) ∧ (¬ (mI h p2 (((10 * v1) + v3).toNatClampNeg)) ≤ 0 → (Ek 140 23 [some (.ref v0), some (.int v1), some (.int (mI h p2 (((10 * v1) + v3).toNatClampNeg))), some (.int (v3 + 1)), some (.int (mI h p2 (((10 * v1) + v3).toNatClampNeg)))] [] h K)))) ∧ (¬ (mI h p2 (((10 * v1) + v3).toNatClampNeg)) = v2 → (K (some (.int 1)) h)))))))))))) : Ek 140 23 [some (.ref v0), some (.int v1), some (.int v2), some (.int v3), none] [] h K := by
  have c1 := H.1
  refine Ek.chk 3 (fun n => rfl) c1 ?_
  replace H := H.2
  refine Ek.br 1 (fun n => rfl) (fun hc => ?_) (fun hc => ?_)
  · replace H := H.1 hc
    exact Ek.ret 2 (fun n => rfl) H
  · replace H := H.2 hc
    refine Ek.chk 2 (fun n => rfl) c1 ?_
    obtain ⟨p2, e3, H⟩ := H
    show Ek _ _ _ (va_rf (mP h v0 24) :: _) _ _
    rw [e3]
    have c4 := H.1
    refine Ek.chk 6 (fun n => rfl) c4 ?_
    replace H := H.2
    refine Ek.br 3 (fun n => rfl) (fun hc => ?_) (fun hc => ?_)
    · replace H := H.1 hc
      refine Ek.br 2 (fun n => rfl) (fun hc => ?_) (fun hc => ?_)
      · replace H := H.1 hc
        exact Ek.go 4 (fun n => rfl) H
      · replace H := H.2 hc
        exact Ek.go 5 (fun n => rfl) H
    · replace H := H.2 hc
      refine Ek.br 2 (fun n => rfl) (fun hc => ?_) (fun hc => ?_)
      · replace H := H.1 hc
        refine Ek.br 2 (fun n => rfl) (fun hc => ?_) (fun hc => ?_)
        · replace H := H.1 hc
          exact Ek.go 4 (fun n => rfl) H
        · replace H := H.2 hc
          exact Ek.go 5 (fun n => rfl) H
      · replace H := H.2 hc
        refine Ek.br 3 (fun n => rfl) (fun hc => ?_) (fun hc => ?_)
        · replace H := H.1 hc
          refine Ek.br 2 (fun n => rfl) (fun hc => ?_) (fun hc => ?_)
          · replace H := H.1 hc
            exact Ek.go 4 (fun n => rfl) H
          · replace H := H.2 hc
            exact Ek.go 5 (fun n => rfl) H
        · replace H := H.2 hc
          exact Ek.ret 2 (fun n => rfl) H

/-- RoundVotesModel.evidence(II)I, from 0 -/
set_option maxRecDepth 4000 in
theorem T141 {a0 : Nat} {a1 : Int32} {a2 : Int32} {h : mH} {K : Option Value → mH → Prop} (H : (mTg h a0 = 12) ∧ (∀ h1, h1 = wI h a0 0 0 → ((a1 = (-1) → ((a2 = 0 → (K (some (.int (mI h1 a0 50))) h1)) ∧ (¬ a2 = 0 → (((lg_cmp (a1).toInt64 0) < 0 → (K (some (.int (-1))) h1)) ∧ (¬ (lg_cmp (a1).toInt64 0) < 0 → (((0 : Int32) < (lg_cmp (a1).toInt64 (((mI h1 a0 50) - 1)).toInt64) → (K (some (.int (-1))) h1)) ∧ (¬ (0 : Int32) < (lg_cmp (a1).toInt64 (((mI h1 a0 50) - 1)).toInt64) → (((lg_cmp (a2).toInt64 0) < 0 → (K (some (.int (-1))) h1)) ∧ (¬ (lg_cmp (a2).toInt64 0) < 0 → (((0 : Int32) < (lg_cmp (a2).toInt64 5) → (K (some (.int (-1))) h1)) ∧ (¬ (0 : Int32) < (lg_cmp (a2).toInt64 5) → (∃ p3, mP h a0 49 = some p3 ∧ (((mTg h p3 = 20 ∨ mTg h p3 = 30) ∧ ¬ ((6 * a1) + a2) < 0 ∧ (((6 * a1) + a2).toNatClampNeg) < mLn h p3) ∧ (K (some (.int (mI h1 p3 (((6 * a1) + a2).toNatClampNeg)))) h1)))))))))))))) ∧ (¬ a1 = (-1) → (((lg_cmp (a1).toInt64 0) < 0 → (K (some (.int (-1))) h1)) ∧ (¬ (lg_cmp (a1).toInt64 0) < 0 → (((0 : Int32) < (lg_cmp (a1).toInt64 (((mI h1 a0 50) - 1)).toInt64) → (K (some (.int (-1))) h1)) ∧ (¬ (0 : Int32) < (lg_cmp (a1).toInt64 (((mI h1 a0 50) - 1)).toInt64) → (((lg_cmp (a2).toInt64 0) < 0 → (K (some (.int (-1))) h1)) ∧ (¬ (lg_cmp (a2).toInt64 0) < 0 → (((0 : Int32) < (lg_cmp (a2).toInt64 5) → (K (some (.int (-1))) h1)) ∧ (¬ (0 : Int32) < (lg_cmp (a2).toInt64 5) → (∃ p6, mP h a0 49 = some p6 ∧ (((mTg h p6 = 20 ∨ mTg h p6 = 30) ∧ ¬ ((6 * a1) + a2) < 0 ∧ (((6 * a1) + a2).toNatClampNeg) < mLn h p6) ∧ (K (some (.int (mI h1 p6 (((6 * a1) + a2).toNatClampNeg)))) h1))))))))))))))) : Ek 141 0 [some (.ref a0), some (.int a1), some (.int a2)] [] h K := by
  have c2 := H.1
  refine Ek.chk 3 (fun n => rfl) c2 ?_
  replace H := H.2
  let h1 : mH := wI h a0 0 0
  replace H := H h1 rfl
  show Ek _ _ _ _ h1 _
  refine Ek.br 3 (fun n => rfl) (fun hc => ?_) (fun hc => ?_)
  · replace H := H.1 hc
    refine Ek.br 2 (fun n => rfl) (fun hc => ?_) (fun hc => ?_)
    · replace H := H.1 hc
      refine Ek.chk 2 (fun n => rfl) c2 ?_
      exact Ek.ret 1 (fun n => rfl) H
    · replace H := H.2 hc
      refine Ek.chk 5 (fun n => rfl) c2 ?_
      refine Ek.call 3 (fun n => rfl) ?_
      refine Ek.br 4 (fun n => rfl) (fun hc => ?_) (fun hc => ?_)
      · replace H := H.1 hc
        refine Ek.ret 2 (fun n => rfl) ?_
        exact Ek.ret 4 (fun n => rfl) H
      · replace H := H.2 hc
        refine Ek.br 4 (fun n => rfl) (fun hc => ?_) (fun hc => ?_)
        · replace H := H.1 hc
          refine Ek.ret 2 (fun n => rfl) ?_
          exact Ek.ret 4 (fun n => rfl) H
        · replace H := H.2 hc
          refine Ek.ret 3 (fun n => rfl) ?_
          refine Ek.call 5 (fun n => rfl) ?_
          refine Ek.br 4 (fun n => rfl) (fun hc => ?_) (fun hc => ?_)
          · replace H := H.1 hc
            refine Ek.ret 2 (fun n => rfl) ?_
            exact Ek.ret 4 (fun n => rfl) H
          · replace H := H.2 hc
            refine Ek.br 4 (fun n => rfl) (fun hc => ?_) (fun hc => ?_)
            · replace H := H.1 hc
              refine Ek.ret 2 (fun n => rfl) ?_
              exact Ek.ret 4 (fun n => rfl) H
            · replace H := H.2 hc
              refine Ek.ret 3 (fun n => rfl) ?_
              refine Ek.chk 3 (fun n => rfl) c2 ?_
              obtain ⟨p3, e4, H⟩ := H
              show Ek _ _ _ (va_rf (mP h a0 49) :: _) _ _
              rw [e4]
              have c5 := H.1
              refine Ek.chk 6 (fun n => rfl) c5 ?_
              replace H := H.2
              exact Ek.ret 1 (fun n => rfl) H
  · replace H := H.2 hc
    refine Ek.chk 5 (fun n => rfl) c2 ?_
    refine Ek.call 3 (fun n => rfl) ?_
    refine Ek.br 4 (fun n => rfl) (fun hc => ?_) (fun hc => ?_)
    · replace H := H.1 hc
      refine Ek.ret 2 (fun n => rfl) ?_
      exact Ek.ret 4 (fun n => rfl) H
    · replace H := H.2 hc
      refine Ek.br 4 (fun n => rfl) (fun hc => ?_) (fun hc => ?_)
      · replace H := H.1 hc
        refine Ek.ret 2 (fun n => rfl) ?_
        exact Ek.ret 4 (fun n => rfl) H
      · replace H := H.2 hc
        refine Ek.ret 3 (fun n => rfl) ?_
        refine Ek.call 5 (fun n => rfl) ?_
        refine Ek.br 4 (fun n => rfl) (fun hc => ?_) (fun hc => ?_)
        · replace H := H.1 hc
          refine Ek.ret 2 (fun n => rfl) ?_
          exact Ek.ret 4 (fun n => rfl) H
        · replace H := H.2 hc
          refine Ek.br 4 (fun n => rfl) (fun hc => ?_) (fun hc => ?_)
          · replace H := H.1 hc
            refine Ek.ret 2 (fun n => rfl) ?_
            exact Ek.ret 4 (fun n => rfl) H
          · replace H := H.2 hc
            refine Ek.ret 3 (fun n => rfl) ?_
            refine Ek.chk 3 (fun n => rfl) c2 ?_
            obtain ⟨p6, e7, H⟩ := H
            show Ek _ _ _ (va_rf (mP h a0 49) :: _) _ _
            rw [e7]
            have c8 := H.1
            refine Ek.chk 6 (fun n => rfl) c8 ?_
            replace H := H.2
            exact Ek.ret 1 (fun n => rfl) H

/-- RoundVotesModel.against(I)I, from 0 -/
set_option maxRecDepth 4000 in
theorem T142 {a0 : Nat} {a1 : Int32} {h : mH} {K : Option Value → mH → Prop} (H : (mTg h a0 = 12) ∧ (∀ h1, h1 = wI h a0 0 0 → (((lg_cmp (a1).toInt64 0) < 0 → (K (some (.int (-1))) h1)) ∧ (¬ (lg_cmp (a1).toInt64 0) < 0 → (((0 : Int32) < (lg_cmp (a1).toInt64 (((mI h1 a0 1) - 1)).toInt64) → (K (some (.int (-1))) h1)) ∧ (¬ (0 : Int32) < (lg_cmp (a1).toInt64 (((mI h1 a0 1) - 1)).toInt64) → (Ek 142 26 [some (.ref a0), some (.int a1), some (.int 0), some (.int ((((((41 * a1) + 0) * 30) + 0) * 3) + 0))] [] h1 K))))))) : Ek 142 0 [some (.ref a0), some (.int a1), none, none] [] h K := by
  have c2 := H.1
  refine Ek.chk 3 (fun n => rfl) c2 ?_
  replace H := H.2
  let h1 : mH := wI h a0 0 0
  replace H := H h1 rfl
  show Ek _ _ _ _ h1 _
  refine Ek.callT 2 (fun n => rfl) c2 ?_
  refine Ek.chk 5 (fun n => rfl) c2 ?_
  refine Ek.call 3 (fun n => rfl) ?_
  refine Ek.br 4 (fun n => rfl) (fun hc => ?_) (fun hc => ?_)
  · replace H := H.1 hc
    refine Ek.ret 2 (fun n => rfl) ?_
    refine Ek.ret 4 (fun n => rfl) ?_
    exact Ek.ret 3 (fun n => rfl) H
  · replace H := H.2 hc
    refine Ek.br 4 (fun n => rfl) (fun hc => ?_) (fun hc => ?_)
    · replace H := H.1 hc
      refine Ek.ret 2 (fun n => rfl) ?_
      refine Ek.ret 4 (fun n => rfl) ?_
      exact Ek.ret 3 (fun n => rfl) H
    · replace H := H.2 hc
      refine Ek.ret 3 (fun n => rfl) ?_
      refine Ek.ret 3 (fun n => rfl) ?_
      refine Ek.callT 8 (fun n => rfl) c2 ?_
      refine Ek.ret 14 (fun n => rfl) ?_
      exact Ek.go 1 (fun n => rfl) H

/-- RoundVotesModel.against(I)I, from 26 -/
set_option maxRecDepth 4000 in
theorem T142_26 {v0 : Nat} {v1 : Int32} {v2 : Int32} {v3 : Int32} {h : mH} {K : Option Value → mH → Prop} (H : (mTg h v0 = 12) ∧ ((((((((41 * (v1 + 1)) + 0) * 30) + 0) * 3) + 0) ≤ v3 → (K (some (.int v2)) h)) ∧ (¬ ((((((41 * (v1 + 1)) + 0) * 30) + 0) * 3) + 0) ≤ v3 → (∃ p2, mP h v0 52 = some p2 ∧ ((mTg h p2 = 21 ∧ ¬ v3 < 0 ∧ (v3.toNatClampNeg) < mLn h p2) ∧ (((mI h p2 (v3.toNatClampNeg)) = 0 → (Ek 142 26 [some (.ref v0), some (.int v1), some (.int (v2 + 0)), some (.int (v3 + 1))] [] h K)) ∧ (¬ (mI h p2 (v3.toNatClampNeg)) = 0 → (Ek 142 26 [some (.ref v0), some (.int v1), some (.int (v2 + 1)), some (.int (v3 + 1))] [] h K)))))))) : Ek 142 26 [some (.ref v0), some (.int v1), some (.int v2), some (.int v3)] [] h K := by
  have c1 := H.1
  refine Ek.callT 8 (fun n => rfl) c1 ?_
  replace H := H.2
  refine Ek.ret 14 (fun n => rfl) ?_
  refine Ek.br 1 (fun n => rfl) (fun hc => ?_) (fun hc => ?_)
  · replace H := H.1 hc
    exact Ek.ret 2 (fun n => rfl) H
  · replace H := H.2 hc
    refine Ek.chk 3 (fun n => rfl) c1 ?_
    obtain ⟨p2, e3, H⟩ := H
    show Ek _ _ _ (va_rf (mP h v0 52) :: _) _ _
    rw [e3]
    have c4 := H.1
    refine Ek.chk 2 (fun n => rfl) c4 ?_
    replace H := H.2
    refine Ek.br 1 (fun n => rfl) (fun hc => ?_) (fun hc => ?_)
    · replace H := H.1 hc
      exact Ek.go 5 (fun n => rfl) H
    · replace H := H.2 hc
      exact Ek.go 6 (fun n => rfl) H

/-- RoundVotesModel.count(I)I, from 0 -/
set_option maxRecDepth 4000 in
theorem T143 {a0 : Nat} {a1 : Int32} {h : mH} {K : Option Value → mH → Prop} (H : (mTg h a0 = 12) ∧ (∀ h1, h1 = wI h a0 0 0 → ((a1 = 0 → (K (some (.int (mI h1 a0 3))) h1)) ∧ (a1 = 1 → (K (some (.int (mI h1 a0 39))) h1)) ∧ (a1 = 2 → (K (some (.int (mI h1 a0 40))) h1)) ∧ (a1 = 3 → (K (some (.int (mI h1 a0 41))) h1)) ∧ (a1 = 4 → (K (some (.int (mI h1 a0 38))) h1)) ∧ (a1 = 5 → (Ek 143 85 [some (.ref a0), some (.int 5), some (.int 0), some (.int 1), none] [] h1 K)) ∧ (a1 = 6 → (K (some (.int (mI h1 a0 1))) h1)) ∧ (a1 = 7 → (Ek 117 0 [some (.ref a0), some (.int 1), none, none, none] [] h1 (fun r h11 => ∃ x12 : Int64, r = some (.long x12) ∧ (K (some (.int ((x12 : Int64).toInt32))) h11)))) ∧ (a1 = 8 → (((mI h1 a0 48) ≤ (mI h1 a0 3) → (K (some (.int 0)) h1)) ∧ (¬ (mI h1 a0 48) ≤ (mI h1 a0 3) → (K (some (.int ((mI h1 a0 48) - (mI h1 a0 3)))) h1)))) ∧ (¬ a1 = 0 → ((¬ a1 = 1 → ((¬ a1 = 2 → ((¬ a1 = 3 → ((¬ a1 = 4 → ((¬ a1 = 5 → ((¬ a1 = 6 → ((¬ a1 = 7 → ((¬ a1 = 8 → (K (some (.int (-1))) h1))))))))))))))))))))) : Ek 143 0 [some (.ref a0), some (.int a1), none, none, none] [] h K := by
  have c2 := H.1
  refine Ek.chk 3 (fun n => rfl) c2 ?_
  replace H := H.2
  let h1 : mH := wI h a0 0 0
  replace H := H h1 rfl
  show Ek _ _ _ _ h1 _
  refine Ek.go 1 (fun n => rfl) ?_
  by_cases q3 : a1 = 0
  · replace H := H.1 q3
    rw [q3]
    refine Ek.go 1 (fun n => rfl) ?_
    refine Ek.chk 2 (fun n => rfl) c2 ?_
    exact Ek.ret 1 (fun n => rfl) H
  replace H := H.2
  by_cases q4 : a1 = 1
  · replace H := H.1 q4
    rw [q4]
    refine Ek.go 1 (fun n => rfl) ?_
    refine Ek.chk 2 (fun n => rfl) c2 ?_
    exact Ek.ret 1 (fun n => rfl) H
  replace H := H.2
  by_cases q5 : a1 = 2
  · replace H := H.1 q5
    rw [q5]
    refine Ek.go 1 (fun n => rfl) ?_
    refine Ek.chk 2 (fun n => rfl) c2 ?_
    exact Ek.ret 1 (fun n => rfl) H
  replace H := H.2
  by_cases q6 : a1 = 3
  · replace H := H.1 q6
    rw [q6]
    refine Ek.go 1 (fun n => rfl) ?_
    refine Ek.chk 2 (fun n => rfl) c2 ?_
    exact Ek.ret 1 (fun n => rfl) H
  replace H := H.2
  by_cases q7 : a1 = 4
  · replace H := H.1 q7
    rw [q7]
    refine Ek.go 1 (fun n => rfl) ?_
    refine Ek.chk 2 (fun n => rfl) c2 ?_
    exact Ek.ret 1 (fun n => rfl) H
  replace H := H.2
  by_cases q8 : a1 = 5
  · replace H := H.1 q8
    rw [q8]
    refine Ek.go 1 (fun n => rfl) ?_
    exact Ek.go 4 (fun n => rfl) H
  replace H := H.2
  by_cases q9 : a1 = 6
  · replace H := H.1 q9
    rw [q9]
    refine Ek.go 1 (fun n => rfl) ?_
    refine Ek.chk 2 (fun n => rfl) c2 ?_
    exact Ek.ret 1 (fun n => rfl) H
  replace H := H.2
  by_cases q10 : a1 = 7
  · replace H := H.1 q10
    rw [q10]
    refine Ek.go 1 (fun n => rfl) ?_
    refine Ek.callT 2 (fun n => rfl) c2 ?_
    refine Ek.mono H ?_
    rintro _ h11 ⟨x12, rfl, H⟩
    exact Ek.ret 2 (fun n => rfl) H
  replace H := H.2
  by_cases q13 : a1 = 8
  · replace H := H.1 q13
    rw [q13]
    refine Ek.go 1 (fun n => rfl) ?_
    refine Ek.chk 2 (fun n => rfl) c2 ?_
    refine Ek.chk 2 (fun n => rfl) c2 ?_
    refine Ek.br 1 (fun n => rfl) (fun hc => ?_) (fun hc => ?_)
    · replace H := H.1 hc
      exact Ek.ret 2 (fun n => rfl) H
    · replace H := H.2 hc
      refine Ek.chk 2 (fun n => rfl) c2 ?_
      refine Ek.chk 2 (fun n => rfl) c2 ?_
      exact Ek.ret 3 (fun n => rfl) H
  replace H := H.2
  replace H := H q3
  replace H := H q4
  replace H := H q5
  replace H := H q6
  replace H := H q7
  replace H := H q8
  replace H := H q9
  replace H := H q10
  replace H := H q13
  have hs : a1 < 0 ∨ 9 ≤ (a1).toNatClampNeg := mSwOut (by decide) (fun j hj => match j, hj with
    | 0, _ => q3
    | 1, _ => q4
    | 2, _ => q5
    | 3, _ => q6
    | 4, _ => q7
    | 5, _ => q8
    | 6, _ => q9
    | 7, _ => q10
    | 8, _ => q13
    | j + 9, hj => absurd hj (by omega))
  refine Ek.br 1 (fun n => rfl) (fun _ => ?_) (fun hq => absurd hs hq)
  exact Ek.ret 2 (fun n => rfl) H

/-- RoundVotesModel.count(I)I, from 85 -/
set_option maxRecDepth 4000 in
theorem T143_85 {v0 : Nat} {v1 : Int32} {v2 : Int32} {v3 : Int32} {h : mH} {K : Option Value → mH → Prop} (H : ((40 : Int32) < v3 → (K (some (.int v2)) h)) ∧ (¬ (40 : Int32) < v3 → (Ek 143 94 [some (.ref v0), some (.int v1), some (.int v2), some (.int v3), some (.int 0)] [] h K))) : Ek 143 85 [some (.ref v0), some (.int v1), some (.int v2), some (.int v3), none] [] h K := by
  refine Ek.br 3 (fun n => rfl) (fun hc => ?_) (fun hc => ?_)
  · replace H := H.1 hc
    exact Ek.ret 2 (fun n => rfl) H
  · replace H := H.2 hc
    exact Ek.go 2 (fun n => rfl) H

/-- RoundVotesModel.count(I)I, from 94 -/
set_option maxRecDepth 4000 in
theorem T143_94 {v0 : Nat} {v1 : Int32} {v2 : Int32} {v3 : Int32} {v4 : Int32} {h : mH} {K : Option Value → mH → Prop} (H : (mTg h v0 = 12) ∧ (((mI h v0 1) ≤ v4 → (Ek 143 85 [some (.ref v0), some (.int v1), some (.int v2), some (.int (v3 + 1)), some (.int v4)] [] h K)) ∧ (¬ (mI h v0 1) ≤ v4 → (∃ p2, mP h v0 24 = some p2 ∧ (((mTg h p2 = 20 ∨ mTg h p2 = 30) ∧ ¬ ((10 * v3) + v4) < 0 ∧ (((10 * v3) + v4).toNatClampNeg) < mLn h p2) ∧ (((mI h p2 (((10 * v3) + v4).toNatClampNeg)) ≤ 0 → (Ek 143 94 [some (.ref v0), some (.int v1), some (.int v2), some (.int v3), some (.int (v4 + 1))] [] h K)) ∧ (¬ (mI h p2 (((10 * v3) + v4).toNatClampNeg)) ≤ 0 → (Ek 143 94 [some (.ref v0), some (.int v1), some (.int v3), some (.int v3), some (.int (v4 + 1))] [] h K)))))))) : Ek 143 94 [some (.ref v0), some (.int v1), some (.int v2), some (.int v3), some (.int v4)] [] h K := by
  have c1 := H.1
  refine Ek.chk 3 (fun n => rfl) c1 ?_
  replace H := H.2
  refine Ek.br 1 (fun n => rfl) (fun hc => ?_) (fun hc => ?_)
  · replace H := H.1 hc
    exact Ek.go 2 (fun n => rfl) H
  · replace H := H.2 hc
    refine Ek.chk 2 (fun n => rfl) c1 ?_
    obtain ⟨p2, e3, H⟩ := H
    show Ek _ _ _ (va_rf (mP h v0 24) :: _) _ _
    rw [e3]
    have c4 := H.1
    refine Ek.chk 6 (fun n => rfl) c4 ?_
    replace H := H.2
    refine Ek.br 1 (fun n => rfl) (fun hc => ?_) (fun hc => ?_)
    · replace H := H.1 hc
      exact Ek.go 4 (fun n => rfl) H
    · replace H := H.2 hc
      exact Ek.go 5 (fun n => rfl) H

/-- RoundVotesModel.weightOf(II)I, from 0 -/
set_option maxRecDepth 4000 in
theorem T144 {a0 : Nat} {a1 : Int32} {a2 : Int32} {h : mH} {K : Option Value → mH → Prop} (H : (mTg h a0 = 12) ∧ (∀ h1, h1 = wI h a0 0 0 → (((lg_cmp (a2).toInt64 1) < 0 → (K (some (.int (-1))) h1)) ∧ (¬ (lg_cmp (a2).toInt64 1) < 0 → (((0 : Int32) < (lg_cmp (a2).toInt64 40) → (K (some (.int (-1))) h1)) ∧ (¬ (0 : Int32) < (lg_cmp (a2).toInt64 40) → ((a1 = (-1) → ((a1 = (-1) → (Ek 117 0 [some (.ref a0), some (.int a2), none, none, none] [] h1 (fun r h3 => ∃ x4 : Int64, r = some (.long x4) ∧ (K (some (.int ((x4 : Int64).toInt32))) h3)))) ∧ (¬ a1 = (-1) → (∃ p5, mP h a0 4 = some p5 ∧ (((mTg h p5 = 20 ∨ mTg h p5 = 30) ∧ ¬ ((10 * a2) + a1) < 0 ∧ (((10 * a2) + a1).toNatClampNeg) < mLn h p5) ∧ (K (some (.int (mI h1 p5 (((10 * a2) + a1).toNatClampNeg)))) h1)))))) ∧ (¬ a1 = (-1) → (((lg_cmp (a1).toInt64 0) < 0 → (K (some (.int (-1))) h1)) ∧ (¬ (lg_cmp (a1).toInt64 0) < 0 → (((0 : Int32) < (lg_cmp (a1).toInt64 (((mI h1 a0 1) - 1)).toInt64) → (K (some (.int (-1))) h1)) ∧ (¬ (0 : Int32) < (lg_cmp (a1).toInt64 (((mI h1 a0 1) - 1)).toInt64) → ((a1 = (-1) → (Ek 117 0 [some (.ref a0), some (.int a2), none, none, none] [] h1 (fun r h8 => ∃ x9 : Int64, r = some (.long x9) ∧ (K (some (.int ((x9 : Int64).toInt32))) h8)))) ∧ (¬ a1 = (-1) → (∃ p10, mP h a0 4 = some p10 ∧ (((mTg h p10 = 20 ∨ mTg h p10 = 30) ∧ ¬ ((10 * a2) + a1) < 0 ∧ (((10 * a2) + a1).toNatClampNeg) < mLn h p10) ∧ (K (some (.int (mI h1 p10 (((10 * a2) + a1).toNatClampNeg)))) h1))))))))))))))))) : Ek 144 0 [some (.ref a0), some (.int a1), some (.int a2)] [] h K := by
  have c2 := H.1
  refine Ek.chk 3 (fun n => rfl) c2 ?_
  replace H := H.2
  let h1 : mH := wI h a0 0 0
  replace H := H h1 rfl
  show Ek _ _ _ _ h1 _
  refine Ek.call 4 (fun n => rfl) ?_
  refine Ek.br 4 (fun n => rfl) (fun hc => ?_) (fun hc => ?_)
  · replace H := H.1 hc
    refine Ek.ret 2 (fun n => rfl) ?_
    exact Ek.ret 3 (fun n => rfl) H
  · replace H := H.2 hc
    refine Ek.br 4 (fun n => rfl) (fun hc => ?_) (fun hc => ?_)
    · replace H := H.1 hc
      refine Ek.ret 2 (fun n => rfl) ?_
      exact Ek.ret 3 (fun n => rfl) H
    · replace H := H.2 hc
      refine Ek.ret 3 (fun n => rfl) ?_
      refine Ek.br 4 (fun n => rfl) (fun hc => ?_) (fun hc => ?_)
      · replace H := H.1 hc
        refine Ek.br 3 (fun n => rfl) (fun hc => ?_) (fun hc => ?_)
        · replace H := H.1 hc
          refine Ek.callT 2 (fun n => rfl) c2 ?_
          refine Ek.mono H ?_
          rintro _ h3 ⟨x4, rfl, H⟩
          exact Ek.ret 3 (fun n => rfl) H
        · replace H := H.2 hc
          refine Ek.chk 2 (fun n => rfl) c2 ?_
          obtain ⟨p5, e6, H⟩ := H
          show Ek _ _ _ (va_rf (mP h a0 4) :: _) _ _
          rw [e6]
          have c7 := H.1
          refine Ek.chk 6 (fun n => rfl) c7 ?_
          replace H := H.2
          exact Ek.ret 1 (fun n => rfl) H
      · replace H := H.2 hc
        refine Ek.callT 2 (fun n => rfl) c2 ?_
        refine Ek.chk 5 (fun n => rfl) c2 ?_
        refine Ek.call 3 (fun n => rfl) ?_
        refine Ek.br 4 (fun n => rfl) (fun hc => ?_) (fun hc => ?_)
        · replace H := H.1 hc
          refine Ek.ret 2 (fun n => rfl) ?_
          refine Ek.ret 4 (fun n => rfl) ?_
          exact Ek.ret 3 (fun n => rfl) H
        · replace H := H.2 hc
          refine Ek.br 4 (fun n => rfl) (fun hc => ?_) (fun hc => ?_)
          · replace H := H.1 hc
            refine Ek.ret 2 (fun n => rfl) ?_
            refine Ek.ret 4 (fun n => rfl) ?_
            exact Ek.ret 3 (fun n => rfl) H
          · replace H := H.2 hc
            refine Ek.ret 3 (fun n => rfl) ?_
            refine Ek.ret 3 (fun n => rfl) ?_
            refine Ek.br 4 (fun n => rfl) (fun hc => ?_) (fun hc => ?_)
            · replace H := H.1 hc
              refine Ek.callT 2 (fun n => rfl) c2 ?_
              refine Ek.mono H ?_
              rintro _ h8 ⟨x9, rfl, H⟩
              exact Ek.ret 3 (fun n => rfl) H
            · replace H := H.2 hc
              refine Ek.chk 2 (fun n => rfl) c2 ?_
              obtain ⟨p10, e11, H⟩ := H
              show Ek _ _ _ (va_rf (mP h a0 4) :: _) _ _
              rw [e11]
              have c12 := H.1
              refine Ek.chk 6 (fun n => rfl) c12 ?_
              replace H := H.2
              exact Ek.ret 1 (fun n => rfl) H

/-- RoundVotesLaw.cell([II)I, from 0 -/
set_option maxRecDepth 4000 in
theorem T145 {a1 : Nat} {a2 : Int32} {h : mH} {K : Option Value → mH → Prop} (H : (mTg h a1 = 20 ∨ mTg h a1 = 23 ∨ mTg h a1 = 30) ∧ (((nI (mLn h a1)) ≤ a2 → (K (some (.int 0)) h)) ∧ (¬ (nI (mLn h a1)) ≤ a2 → (((mTg h a1 = 20 ∨ mTg h a1 = 30) ∧ ¬ a2 < 0 ∧ (a2.toNatClampNeg) < mLn h a1) ∧ (K (some (.int (mI h a1 (a2.toNatClampNeg)))) h))))) : Ek 145 0 [some (.ref a1), some (.int a2)] [] h K := by
  have c1 := H.1
  refine Ek.chk 3 (fun n => rfl) c1 ?_
  replace H := H.2
  refine Ek.br 1 (fun n => rfl) (fun hc => ?_) (fun hc => ?_)
  · replace H := H.1 hc
    exact Ek.ret 2 (fun n => rfl) H
  · replace H := H.2 hc
    have c2 := H.1
    refine Ek.chk 3 (fun n => rfl) c2 ?_
    replace H := H.2
    exact Ek.ret 2 (fun n => rfl) H

/-- RoundVotesLaw.law([I)Z, from 0 -/
set_option maxRecDepth 4000 in
theorem T146 {a1 : Nat} {h : mH} {K : Option Value → mH → Prop} (H : ∀ h1, h1 = wN h 11 12 → ((mTg h1 a1 = 20 ∨ mTg h1 a1 = 23 ∨ mTg h1 a1 = 30) ∧ (((nI (mLn h1 a1)) ≤ (0 : Int32) → (((nI (mLn h1 a1)) ≤ (1 : Int32) → (Ek 61 0 [some (.ref (mTop h)), some (.int 0), some (.int 0), none] [] h1 (fun r h3 => r = none ∧ (∀ h4, h4 = wN h3 12 53 → ((mTg h4 a1 = 20 ∨ mTg h4 a1 = 23 ∨ mTg h4 a1 = 30) ∧ (((nI (mLn h4 a1)) ≤ (0 : Int32) → (((nI (mLn h4 a1)) ≤ (1 : Int32) → (Ek 91 0 [some (.ref (mTop h3)), some (.int 0), some (.int 0), none] [] h4 (fun r h6 => r = none ∧ (Ek 146 38 [some (.ref a1), some (.ref (mTop h)), some (.ref (mTop h3)), some (.int 2)] [] h6 K)))) ∧ (¬ (nI (mLn h4 a1)) ≤ (1 : Int32) → (((mTg h4 a1 = 20 ∨ mTg h4 a1 = 30) ∧ ¬ (1 : Int32) < 0 ∧ ((1 : Int32).toNatClampNeg) < mLn h4 a1) ∧ (Ek 91 0 [some (.ref (mTop h3)), some (.int 0), some (.int (mI h4 a1 ((1 : Int32).toNatClampNeg))), none] [] h4 (fun r h8 => r = none ∧ (Ek 146 38 [some (.ref a1), some (.ref (mTop h)), some (.ref (mTop h3)), some (.int 2)] [] h8 K))))))) ∧ (¬ (nI (mLn h4 a1)) ≤ (0 : Int32) → (((mTg h4 a1 = 20 ∨ mTg h4 a1 = 30) ∧ ¬ (0 : Int32) < 0 ∧ ((0 : Int32).toNatClampNeg) < mLn h4 a1) ∧ (((nI (mLn h4 a1)) ≤ (1 : Int32) → (Ek 91 0 [some (.ref (mTop h3)), some (.int (mI h4 a1 ((0 : Int32).toNatClampNeg))), some (.int 0), none] [] h4 (fun r h10 => r = none ∧ (Ek 146 38 [some (.ref a1), some (.ref (mTop h)), some (.ref (mTop h3)), some (.int 2)] [] h10 K)))) ∧ (¬ (nI (mLn h4 a1)) ≤ (1 : Int32) → (((mTg h4 a1 = 20 ∨ mTg h4 a1 = 30) ∧ ¬ (1 : Int32) < 0 ∧ ((1 : Int32).toNatClampNeg) < mLn h4 a1) ∧ (Ek 91 0 [some (.ref (mTop h3)), some (.int (mI h4 a1 ((0 : Int32).toNatClampNeg))), some (.int (mI h4 a1 ((1 : Int32).toNatClampNeg))), none] [] h4 (fun r h12 => r = none ∧ (Ek 146 38 [some (.ref a1), some (.ref (mTop h)), some (.ref (mTop h3)), some (.int 2)] [] h12 K)))))))))))))) ∧ (¬ (nI (mLn h1 a1)) ≤ (1 : Int32) → (((mTg h1 a1 = 20 ∨ mTg h1 a1 = 30) ∧ ¬ (1 : Int32) < 0 ∧ ((1 : Int32).toNatClampNeg) < mLn h1 a1) ∧ (Ek 61 0 [some (.ref (mTop h)), some (.int 0), some (.int (mI h1 a1 ((1 : Int32).toNatClampNeg))), none] [] h1 (fun r h14 => r = none ∧ (∀ h15, h15 = wN h14 12 53 → ((mTg h15 a1 = 20 ∨ mTg h15 a1 = 23 ∨ mTg h15 a1 = 30) ∧ (((nI (mLn h15 a1)) ≤ (0 : Int32) → (((nI (mLn h15 a1)) ≤ (1 : Int32) → (Ek 91 0 [some (.ref (mTop h14)), some (.int 0), some (.int 0), none] [] h15 (fun r h17 => r = none ∧ (Ek 146 38 [some (.ref a1), some (.ref (mTop h)), some (.ref (mTop h14)), some (.int 2)] [] h17 K)))) ∧ (¬ (nI (mLn h15 a1)) ≤ (1 : Int32) → (((mTg h15 a1 = 20 ∨ mTg h15 a1 = 30) ∧ ¬ (1 : Int32) < 0 ∧ ((1 : Int32).toNatClampNeg) < mLn h15 a1) ∧ (Ek 91 0 [some (.ref (mTop h14)), some (.int 0), some (.int (mI h15 a1 ((1 : Int32).toNatClampNeg))), none] [] h15 (fun r h19 => r = none ∧ (Ek 146 38 [some (.ref a1), some (.ref (mTop h)), some (.ref (mTop h14)), some (.int 2)] [] h19 K))))))) ∧ (¬ (nI (mLn h15 a1)) ≤ (0 : Int32) → (((mTg h15 a1 = 20 ∨ mTg h15 a1 = 30) ∧ ¬ (0 : Int32) < 0 ∧ ((0 : Int32).toNatClampNeg) < mLn h15 a1) ∧ (((nI (mLn h15 a1)) ≤ (1 : Int32) → (Ek 91 0 [some (.ref (mTop h14)), some (.int (mI h15 a1 ((0 : Int32).toNatClampNeg))), some (.int 0), none] [] h15 (fun r h21 => r = none ∧ (Ek 146 38 [some (.ref a1), some (.ref (mTop h)), some (.ref (mTop h14)), some (.int 2)] [] h21 K)))) ∧ (¬ (nI (mLn h15 a1)) ≤ (1 : Int32) → (((mTg h15 a1 = 20 ∨ mTg h15 a1 = 30) ∧ ¬ (1 : Int32) < 0 ∧ ((1 : Int32).toNatClampNeg) < mLn h15 a1) ∧ (Ek 91 0 [some (.ref (mTop h14)), some (.int (mI h15 a1 ((0 : Int32).toNatClampNeg))), some (.int (mI h15 a1 ((1 : Int32).toNatClampNeg))), none] [] h15 (fun r h23 => r = none ∧ (Ek 146 38 [some (.ref a1), some (.ref (mTop h)), some (.ref (mTop h14)), some (.int 2)] [] h23 K))))))))))))))))) ∧ (¬ (nI (mLn h1 a1)) ≤ (0 : Int32) → (((mTg h1 a1 = 20 ∨ mTg h1 a1 = 30) ∧ ¬ (0 : Int32) < 0 ∧ ((0 : Int32).toNatClampNeg) < mLn h1 a1) ∧ (((nI (mLn h1 a1)) ≤ (1 : Int32) → (Ek 61 0 [some (.ref (mTop h)), some (.int (mI h1 a1 ((0 : Int32).toNatClampNeg))), some (.int 0), none] [] h1 (fun r h25 => r = none ∧ (∀ h26, h26 = wN h25 12 53 → ((mTg h26 a1 = 20 ∨ mTg h26 a1 = 23 ∨ mTg h26 a1 = 30) ∧ (((nI (mLn h26 a1)) ≤ (0 : Int32) → (((nI (mLn h26 a1)) ≤ (1 : Int32) → (Ek 91 0 [some (.ref (mTop h25)), some (.int 0), some (.int 0), none] [] h26 (fun r h28 => r = none ∧ (Ek 146 38 [some (.ref a1), some (.ref (mTop h)), some (.ref (mTop h25)), some (.int 2)] [] h28 K)))) ∧ (¬ (nI (mLn h26 a1)) ≤ (1 : Int32) → (((mTg h26 a1 = 20 ∨ mTg h26 a1 = 30) ∧ ¬ (1 : Int32) < 0 ∧ ((1 : Int32).toNatClampNeg) < mLn h26 a1) ∧ (Ek 91 0 [some (.ref (mTop h25)), some (.int 0), some (.int (mI h26 a1 ((1 : Int32).toNatClampNeg))), none] [] h26 (fun r h30 => r = none ∧ (Ek 146 38 [some (.ref a1), some (.ref (mTop h)), some (.ref (mTop h25)), some (.int 2)] [] h30 K))))))) ∧ (¬ (nI (mLn h26 a1)) ≤ (0 : Int32) → (((mTg h26 a1 = 20 ∨ mTg h26 a1 = 30) ∧ ¬ (0 : Int32) < 0 ∧ ((0 : Int32).toNatClampNeg) < mLn h26 a1) ∧ (((nI (mLn h26 a1)) ≤ (1 : Int32) → (Ek 91 0 [some (.ref (mTop h25)), some (.int (mI h26 a1 ((0 : Int32).toNatClampNeg))), some (.int 0), none] [] h26 (fun r h32 => r = none ∧ (Ek 146 38 [some (.ref a1), some (.ref (mTop h)), some (.ref (mTop h25)), some (.int 2)] [] h32 K)))) ∧ (¬ (nI (mLn h26 a1)) ≤ (1 : Int32) → (((mTg h26 a1 = 20 ∨ mTg h26 a1 = 30) ∧ ¬ (1 : Int32) < 0 ∧ ((1 : Int32).toNatClampNeg) < mLn h26 a1) ∧ (Ek 91 0 [some (.ref (mTop h25)), some (.int (mI h26 a1 ((0 : Int32).toNatClampNeg))), some (.int (mI h26 a1 ((1 : Int32).toNatClampNeg))), none] [] h26 (fun r h34 => r = none ∧ (Ek 146 38 [some (.ref a1), some (.ref (mTop h)), some (.ref (mTop h25)), some (.int 2)] [] h34 K)))))))))))))) ∧ (¬ (nI (mLn h1 a1)) ≤ (1 : Int32) → (((mTg h1 a1 = 20 ∨ mTg h1 a1 = 30) ∧ ¬ (1 : Int32) < 0 ∧ ((1 : Int32).toNatClampNeg) < mLn h1 a1) ∧ (Ek 61 0 [some (.ref (mTop h)), some (.int (mI h1 a1 ((0 : Int32).toNatClampNeg))), some (.int (mI h1 a1 ((1 : Int32).toNatClampNeg))), none] [] h1 (fun r h36 => r = none ∧ (∀ h37, h37 = wN h36 12 53 → ((mTg h37 a1 = 20 ∨ mTg h37 a1 = 23 ∨ mTg h37 a1 = 30) ∧ (((nI (mLn h37 a1)) ≤ (0 : Int32) → (((nI (mLn h37 a1)) ≤ (1 : Int32) → (Ek 91 0 [some (.ref (mTop h36)), some (.int 0), some (.int 0), none] [] h37 (fun r h39 => r = none ∧ (Ek 146 38 [some (.ref a1), some (.ref (mTop h)), some (.ref (mTop h36)), some (.int 2)] [] h39 K)))) ∧ (¬ (nI (mLn h37 a1)) ≤ (1 : Int32) → (((mTg h37 a1 = 20 ∨ mTg h37 a1 = 30) ∧ ¬ (1 : Int32) < 0 ∧ ((1 : Int32).toNatClampNeg) < mLn h37 a1) ∧ (Ek 91 0 [some (.ref (mTop h36)), some (.int 0), some (.int (mI h37 a1 ((1 : Int32).toNatClampNeg))), none] [] h37 (fun r h41 => r = none ∧ (Ek 146 38 [some (.ref a1), some (.ref (mTop h)), some (.ref (mTop h36)), some (.int 2)] [] h41 K))))))) ∧ (¬ (nI (mLn h37 a1)) ≤ (0 : Int32) → (((mTg h37 a1 = 20 ∨ mTg h37 a1 = 30) ∧ ¬ (0 : Int32) < 0 ∧ ((0 : Int32).toNatClampNeg) < mLn h37 a1) ∧ (((nI (mLn h37 a1)) ≤ (1 : Int32) → (Ek 91 0 [some (.ref (mTop h36)), some (.int (mI h37 a1 ((0 : Int32).toNatClampNeg))), some (.int 0), none] [] h37 (fun r h43 => r = none ∧ (Ek 146 38 [some (.ref a1), some (.ref (mTop h)), some (.ref (mTop h36)), some (.int 2)] [] h43 K)))) ∧ (¬ (nI (mLn h37 a1)) ≤ (1 : Int32) → (((mTg h37 a1 = 20 ∨ mTg h37 a1 = 30) ∧ ¬ (1 : Int32) < 0 ∧ ((1 : Int32).toNatClampNeg) < mLn h37 a1) ∧ (Ek 91 0 [some (.ref (mTop h36)), some (.int (mI h37 a1 ((0 : Int32).toNatClampNeg))), some (.int (mI h37 a1 ((1 : Int32).toNatClampNeg))), none] [] h37 (fun r h45 => r = none ∧ (Ek 146 38 [some (.ref a1), some (.ref (mTop h)), some (.ref (mTop h36)), some (.int 2)] [] h45 K))))))))))))))))))))) : Ek 146 0 [some (.ref a1), none, none, none] [] h K := by
  refine Ek.go 1 (fun n => rfl) ?_
  let h1 : mH := wN h 11 12
  replace H := H h1 rfl
  show Ek _ _ _ _ h1 _
  refine Ek.call 3 (fun n => rfl) ?_
  have c2 := H.1
  refine Ek.chk 3 (fun n => rfl) c2 ?_
  replace H := H.2
  refine Ek.br 1 (fun n => rfl) (fun hc => ?_) (fun hc => ?_)
  · replace H := H.1 hc
    refine Ek.ret 2 (fun n => rfl) ?_
    refine Ek.call 2 (fun n => rfl) ?_
    refine Ek.chk 3 (fun n => rfl) c2 ?_
    refine Ek.br 1 (fun n => rfl) (fun hc => ?_) (fun hc => ?_)
    · replace H := H.1 hc
      refine Ek.ret 2 (fun n => rfl) ?_
      refine Ek.call 0 (fun n => rfl) ?_
      refine Ek.mono H ?_
      rintro _ h3 ⟨rfl, H⟩
      refine Ek.go 2 (fun n => rfl) ?_
      let h4 : mH := wN h3 12 53
      replace H := H h4 rfl
      show Ek _ _ _ _ h4 _
      refine Ek.call 3 (fun n => rfl) ?_
      have c5 := H.1
      refine Ek.chk 3 (fun n => rfl) c5 ?_
      replace H := H.2
      refine Ek.br 1 (fun n => rfl) (fun hc => ?_) (fun hc => ?_)
      · replace H := H.1 hc
        refine Ek.ret 2 (fun n => rfl) ?_
        refine Ek.call 2 (fun n => rfl) ?_
        refine Ek.chk 3 (fun n => rfl) c5 ?_
        refine Ek.br 1 (fun n => rfl) (fun hc => ?_) (fun hc => ?_)
        · replace H := H.1 hc
          refine Ek.ret 2 (fun n => rfl) ?_
          refine Ek.call 0 (fun n => rfl) ?_
          refine Ek.mono H ?_
          rintro _ h6 ⟨rfl, H⟩
          exact Ek.go 3 (fun n => rfl) H
        · replace H := H.2 hc
          have c7 := H.1
          refine Ek.chk 3 (fun n => rfl) c7 ?_
          replace H := H.2
          refine Ek.ret 2 (fun n => rfl) ?_
          refine Ek.call 0 (fun n => rfl) ?_
          refine Ek.mono H ?_
          rintro _ h8 ⟨rfl, H⟩
          exact Ek.go 3 (fun n => rfl) H
      · replace H := H.2 hc
        have c9 := H.1
        refine Ek.chk 3 (fun n => rfl) c9 ?_
        replace H := H.2
        refine Ek.ret 2 (fun n => rfl) ?_
        refine Ek.call 2 (fun n => rfl) ?_
        refine Ek.chk 3 (fun n => rfl) c5 ?_
        refine Ek.br 1 (fun n => rfl) (fun hc => ?_) (fun hc => ?_)
        · replace H := H.1 hc
          refine Ek.ret 2 (fun n => rfl) ?_
          refine Ek.call 0 (fun n => rfl) ?_
          refine Ek.mono H ?_
          rintro _ h10 ⟨rfl, H⟩
          exact Ek.go 3 (fun n => rfl) H
        · replace H := H.2 hc
          have c11 := H.1
          refine Ek.chk 3 (fun n => rfl) c11 ?_
          replace H := H.2
          refine Ek.ret 2 (fun n => rfl) ?_
          refine Ek.call 0 (fun n => rfl) ?_
          refine Ek.mono H ?_
          rintro _ h12 ⟨rfl, H⟩
          exact Ek.go 3 (fun n => rfl) H
    · replace H := H.2 hc
      have c13 := H.1
      refine Ek.chk 3 (fun n => rfl) c13 ?_
      replace H := H.2
      refine Ek.ret 2 (fun n => rfl) ?_
      refine Ek.call 0 (fun n => rfl) ?_
      refine Ek.mono H ?_
      rintro _ h14 ⟨rfl, H⟩
      refine Ek.go 2 (fun n => rfl) ?_
      let h15 : mH := wN h14 12 53
      replace H := H h15 rfl
      show Ek _ _ _ _ h15 _
      refine Ek.call 3 (fun n => rfl) ?_
      have c16 := H.1
      refine Ek.chk 3 (fun n => rfl) c16 ?_
      replace H := H.2
      refine Ek.br 1 (fun n => rfl) (fun hc => ?_) (fun hc => ?_)
      · replace H := H.1 hc
        refine Ek.ret 2 (fun n => rfl) ?_
        refine Ek.call 2 (fun n => rfl) ?_
        refine Ek.chk 3 (fun n => rfl) c16 ?_
        refine Ek.br 1 (fun n => rfl) (fun hc => ?_) (fun hc => ?_)
        · replace H := H.1 hc
          refine Ek.ret 2 (fun n => rfl) ?_
          refine Ek.call 0 (fun n => rfl) ?_
          refine Ek.mono H ?_
          rintro _ h17 ⟨rfl, H⟩
          exact Ek.go 3 (fun n => rfl) H
        · replace H := H.2 hc
          have c18 := H.1
          refine Ek.chk 3 (fun n => rfl) c18 ?_
          replace H := H.2
          refine Ek.ret 2 (fun n => rfl) ?_
          refine Ek.call 0 (fun n => rfl) ?_
          refine Ek.mono H ?_
          rintro _ h19 ⟨rfl, H⟩
          exact Ek.go 3 (fun n => rfl) H
      · replace H := H.2 hc
        have c20 := H.1
        refine Ek.chk 3 (fun n => rfl) c20 ?_
        replace H := H.2
        refine Ek.ret 2 (fun n => rfl) ?_
        refine Ek.call 2 (fun n => rfl) ?_
        refine Ek.chk 3 (fun n => rfl) c16 ?_
        refine Ek.br 1 (fun n => rfl) (fun hc => ?_) (fun hc => ?_)
        · replace H := H.1 hc
          refine Ek.ret 2 (fun n => rfl) ?_
          refine Ek.call 0 (fun n => rfl) ?_
          refine Ek.mono H ?_
          rintro _ h21 ⟨rfl, H⟩
          exact Ek.go 3 (fun n => rfl) H
        · replace H := H.2 hc
          have c22 := H.1
          refine Ek.chk 3 (fun n => rfl) c22 ?_
          replace H := H.2
          refine Ek.ret 2 (fun n => rfl) ?_
          refine Ek.call 0 (fun n => rfl) ?_
          refine Ek.mono H ?_
          rintro _ h23 ⟨rfl, H⟩
          exact Ek.go 3 (fun n => rfl) H
  · replace H := H.2 hc
    have c24 := H.1
    refine Ek.chk 3 (fun n => rfl) c24 ?_
    replace H := H.2
    refine Ek.ret 2 (fun n => rfl) ?_
    refine Ek.call 2 (fun n => rfl) ?_
    refine Ek.chk 3 (fun n => rfl) c2 ?_
    refine Ek.br 1 (fun n => rfl) (fun hc => ?_) (fun hc => ?_)
    · replace H := H.1 hc
      refine Ek.ret 2 (fun n => rfl) ?_
      refine Ek.call 0 (fun n => rfl) ?_
      refine Ek.mono H ?_
      rintro _ h25 ⟨rfl, H⟩
      refine Ek.go 2 (fun n => rfl) ?_
      let h26 : mH := wN h25 12 53
      replace H := H h26 rfl
      show Ek _ _ _ _ h26 _
      refine Ek.call 3 (fun n => rfl) ?_
      have c27 := H.1
      refine Ek.chk 3 (fun n => rfl) c27 ?_
      replace H := H.2
      refine Ek.br 1 (fun n => rfl) (fun hc => ?_) (fun hc => ?_)
      · replace H := H.1 hc
        refine Ek.ret 2 (fun n => rfl) ?_
        refine Ek.call 2 (fun n => rfl) ?_
        refine Ek.chk 3 (fun n => rfl) c27 ?_
        refine Ek.br 1 (fun n => rfl) (fun hc => ?_) (fun hc => ?_)
        · replace H := H.1 hc
          refine Ek.ret 2 (fun n => rfl) ?_
          refine Ek.call 0 (fun n => rfl) ?_
          refine Ek.mono H ?_
          rintro _ h28 ⟨rfl, H⟩
          exact Ek.go 3 (fun n => rfl) H
        · replace H := H.2 hc
          have c29 := H.1
          refine Ek.chk 3 (fun n => rfl) c29 ?_
          replace H := H.2
          refine Ek.ret 2 (fun n => rfl) ?_
          refine Ek.call 0 (fun n => rfl) ?_
          refine Ek.mono H ?_
          rintro _ h30 ⟨rfl, H⟩
          exact Ek.go 3 (fun n => rfl) H
      · replace H := H.2 hc
        have c31 := H.1
        refine Ek.chk 3 (fun n => rfl) c31 ?_
        replace H := H.2
        refine Ek.ret 2 (fun n => rfl) ?_
        refine Ek.call 2 (fun n => rfl) ?_
        refine Ek.chk 3 (fun n => rfl) c27 ?_
        refine Ek.br 1 (fun n => rfl) (fun hc => ?_) (fun hc => ?_)
        · replace H := H.1 hc
          refine Ek.ret 2 (fun n => rfl) ?_
          refine Ek.call 0 (fun n => rfl) ?_
          refine Ek.mono H ?_
          rintro _ h32 ⟨rfl, H⟩
          exact Ek.go 3 (fun n => rfl) H
        · replace H := H.2 hc
          have c33 := H.1
          refine Ek.chk 3 (fun n => rfl) c33 ?_
          replace H := H.2
          refine Ek.ret 2 (fun n => rfl) ?_
          refine Ek.call 0 (fun n => rfl) ?_
          refine Ek.mono H ?_
          rintro _ h34 ⟨rfl, H⟩
          exact Ek.go 3 (fun n => rfl) H
    · replace H := H.2 hc
      have c35 := H.1
      refine Ek.chk 3 (fun n => rfl) c35 ?_
      replace H := H.2
      refine Ek.ret 2 (fun n => rfl) ?_
      refine Ek.call 0 (fun n => rfl) ?_
      refine Ek.mono H ?_
      rintro _ h36 ⟨rfl, H⟩
      refine Ek.go 2 (fun n => rfl) ?_
      let h37 : mH := wN h36 12 53
      replace H := H h37 rfl
      show Ek _ _ _ _ h37 _
      refine Ek.call 3 (fun n => rfl) ?_
      have c38 := H.1
      refine Ek.chk 3 (fun n => rfl) c38 ?_
      replace H := H.2
      refine Ek.br 1 (fun n => rfl) (fun hc => ?_) (fun hc => ?_)
      · replace H := H.1 hc
        refine Ek.ret 2 (fun n => rfl) ?_
        refine Ek.call 2 (fun n => rfl) ?_
        refine Ek.chk 3 (fun n => rfl) c38 ?_
        refine Ek.br 1 (fun n => rfl) (fun hc => ?_) (fun hc => ?_)
        · replace H := H.1 hc
          refine Ek.ret 2 (fun n => rfl) ?_
          refine Ek.call 0 (fun n => rfl) ?_
          refine Ek.mono H ?_
          rintro _ h39 ⟨rfl, H⟩
          exact Ek.go 3 (fun n => rfl) H
        · replace H := H.2 hc
          have c40 := H.1
          refine Ek.chk 3 (fun n => rfl) c40 ?_
          replace H := H.2
          refine Ek.ret 2 (fun n => rfl) ?_
          refine Ek.call 0 (fun n => rfl) ?_
          refine Ek.mono H ?_
          rintro _ h41 ⟨rfl, H⟩
          exact Ek.go 3 (fun n => rfl) H
      · replace H := H.2 hc
        have c42 := H.1
        refine Ek.chk 3 (fun n => rfl) c42 ?_
        replace H := H.2
        refine Ek.ret 2 (fun n => rfl) ?_
        refine Ek.call 2 (fun n => rfl) ?_
        refine Ek.chk 3 (fun n => rfl) c38 ?_
        refine Ek.br 1 (fun n => rfl) (fun hc => ?_) (fun hc => ?_)
        · replace H := H.1 hc
          refine Ek.ret 2 (fun n => rfl) ?_
          refine Ek.call 0 (fun n => rfl) ?_
          refine Ek.mono H ?_
          rintro _ h43 ⟨rfl, H⟩
          exact Ek.go 3 (fun n => rfl) H
        · replace H := H.2 hc
          have c44 := H.1
          refine Ek.chk 3 (fun n => rfl) c44 ?_
          replace H := H.2
          refine Ek.ret 2 (fun n => rfl) ?_
          refine Ek.call 0 (fun n => rfl) ?_
          refine Ek.mono H ?_
          rintro _ h45 ⟨rfl, H⟩
          exact Ek.go 3 (fun n => rfl) H

/-- RoundVotesLaw.law([I)Z, from 38 -/
set_option maxRecDepth 4000 in
theorem T146_38 {v0 : Nat} {v1 : Nat} {v2 : Nat} {v3 : Int32} {h : mH} {K : Option Value → mH → Prop} (H : (mTg h v0 = 20 ∨ mTg h v0 = 23 ∨ mTg h v0 = 30) ∧ ((((nI (mLn h v0)) - 5) < v3 → (K (some (.int 1)) h)) ∧ (¬ ((nI (mLn h v0)) - 5) < v3 → (((mTg h v0 = 20 ∨ mTg h v0 = 30) ∧ ¬ v3 < 0 ∧ (v3.toNatClampNeg) < mLn h v0) ∧ ((((mI h v0 (v3.toNatClampNeg)) &&& 15) = 0 → (((mTg h v0 = 20 ∨ mTg h v0 = 30) ∧ ¬ (v3 + 1) < 0 ∧ ((v3 + 1).toNatClampNeg) < mLn h v0) ∧ (((mTg h v0 = 20 ∨ mTg h v0 = 30) ∧ ¬ (v3 + 2) < 0 ∧ ((v3 + 2).toNatClampNeg) < mLn h v0) ∧ ((mTg h v1 = 11) ∧ (Ek 62 0 [some (.ref v1), some (.int (mI h v0 ((v3 + 1).toNatClampNeg))), some (.int (mI h v0 ((v3 + 2).toNatClampNeg))), none] [] h (fun r h7 => ∃ x8 : Int32, r = some (.int x8) ∧ (((mTg h7 v0 = 20 ∨ mTg h7 v0 = 30) ∧ ¬ (v3 + 1) < 0 ∧ ((v3 + 1).toNatClampNeg) < mLn h7 v0) ∧ (((mTg h7 v0 = 20 ∨ mTg h7 v0 = 30) ∧ ¬ (v3 + 2) < 0 ∧ ((v3 + 2).toNatClampNeg) < mLn h7 v0) ∧ ((mTg h7 v2 = 12) ∧ (Ek 130 0 [some (.ref v2), some (.int (mI h7 v0 ((v3 + 1).toNatClampNeg))), some (.int (mI h7 v0 ((v3 + 2).toNatClampNeg))), none, none] [] h7 (fun r h12 => ∃ x13 : Int32, r = some (.int x13) ∧ ((x8 = x13 → (Ek 146 38 [some (.ref v0), some (.ref v1), some (.ref v2), some (.int (v3 + 5))] [] h12 K)) ∧ (¬ x8 = x13 → (K (some (.int 0)) h12)))))))))))))) ∧ (((mI h v0 (v3.toNatClampNeg)) &&& 15) = 1 → (((mTg h v0 = 20 ∨ mTg h v0 = 30) ∧ ¬ (v3 + 1) < 0 ∧ ((v3 + 1).toNatClampNeg) < mLn h v0) ∧ (((mTg h v0 = 20 ∨ mTg h v0 = 30) ∧ ¬ (v3 + 2) < 0 ∧ ((v3 + 2).toNatClampNeg) < mLn h v0) ∧ ((mTg h v1 = 11) ∧ (Ek 65 0 [some (.ref v1), some (.int (mI h v0 ((v3 + 1).toNatClampNeg))), some (.int (mI h v0 ((v3 + 2).toNatClampNeg))), none] [] h (fun r h18 => ∃ x19 : Int32, r = some (.int x19) ∧ (((mTg h18 v0 = 20 ∨ mTg h18 v0 = 30) ∧ ¬ (v3 + 1) < 0 ∧ ((v3 + 1).toNatClampNeg) < mLn h18 v0) ∧ (((mTg h18 v0 = 20 ∨ mTg h18 v0 = 30) ∧ ¬ (v3 + 2) < 0 ∧ ((v3 + 2).toNatClampNeg) < mLn h18 v0) ∧ ((mTg h18 v2 = 12) ∧ (Ek 132 0 [some (.ref v2), some (.int (mI h18 v0 ((v3 + 1).toNatClampNeg))), some (.int (mI h18 v0 ((v3 + 2).toNatClampNeg))), none] [] h18 (fun r h23 => ∃ x24 : Int32, r = some (.int x24) ∧ ((x19 = x24 → (Ek 146 38 [some (.ref v0), some (.ref v1), some (.ref v2), some (.int (v3 + 5))] [] h23 K)) ∧ (¬ x19 = x24 → (K (some (.int 0)) h23)))))))))))))) ∧ (((mI h v0 (v3.toNatClampNeg)) &&& 15) = 2 → (((mTg h v0 = 20 ∨ mTg h v0 = 30) ∧ ¬ (v3 + 1) < 0 ∧ ((v3 + 1).toNatClampNeg) < mLn h v0) ∧ (((mTg h v0 = 20 ∨ mTg h v0 = 30) ∧ ¬ (v3 + 2) < 0 ∧ ((v3 + 2).toNatClampNeg) < mLn h v0) ∧ (((mTg h v0 = 20 ∨ mTg h v0 = 30) ∧ ¬ (v3 + 3) < 0 ∧ ((v3 + 3).toNatClampNeg) < mLn h v0) ∧ ((mTg h v1 = 11) ∧ (Ek 66 0 [some (.ref v1), some (.int (mI h v0 ((v3 + 1).toNatClampNeg))), some (.int (mI h v0 ((v3 + 2).toNatClampNeg))), some (.int (mI h v0 ((v3 + 3).toNatClampNeg)))] [] h (fun r h30 => ∃ x31 : Int32, r = some (.int x31) ∧ (((mTg h30 v0 = 20 ∨ mTg h30 v0 = 30) ∧ ¬ (v3 + 1) < 0 ∧ ((v3 + 1).toNatClampNeg) < mLn h30 v0) ∧ (((mTg h30 v0 = 20 ∨ mTg h30 v0 = 30) ∧ ¬ (v3 + 2) < 0 ∧ ((v3 + 2).toNatClampNeg) < mLn h30 v0) ∧ (((mTg h30 v0 = 20 ∨ mTg h30 v0 = 30) ∧ ¬ (v3 + 3) < 0 ∧ ((v3 + 3).toNatClampNeg) < mLn h30 v0) ∧ ((mTg h30 v2 = 12) ∧ (Ek 133 0 [some (.ref v2), some (.int (mI h30 v0 ((v3 + 1).toNatClampNeg))), some (.int (mI h30 v0 ((v3 + 2).toNatClampNeg))), some (.int (mI h30 v0 ((v3 + 3).toNatClampNeg))), none] [] h30 (fun r h36 => ∃ x37 : Int32, r = some (.int x37) ∧ ((x31 = x37 → (Ek 146 38 [some (.ref v0), some (.ref v1), some (.ref v2), some (.int (v3 + 5))] [] h36 K)) ∧ (¬ x31 = x37 → (K (some (.int 0)) h36)))))))))))))))) ∧ (((mI h v0 (v3.toNatClampNeg)) &&& 15) = 3 → (((mTg h v0 = 20 ∨ mTg h v0 = 30) ∧ ¬ (v3 + 1) < 0 ∧ ((v3 + 1).toNatClampNeg) < mLn h v0) ∧ (((mTg h v0 = 20 ∨ mTg h v0 = 30) ∧ ¬ (v3 + 2) < 0 ∧ ((v3 + 2).toNatClampNeg) < mLn h v0) ∧ ((mTg h v1 = 11) ∧ (Ek 67 0 [some (.ref v1), some (.int (mI h v0 ((v3 + 1).toNatClampNeg))), some (.int (mI h v0 ((v3 + 2).toNatClampNeg)))] [] h (fun r h42 => ∃ x43 : Int32, r = some (.int x43) ∧ (((mTg h42 v0 = 20 ∨ mTg h42 v0 = 30) ∧ ¬ (v3 + 1) < 0 ∧ ((v3 + 1).toNatClampNeg) < mLn h42 v0) ∧ (((mTg h42 v0 = 20 ∨ mTg h42 v0 = 30) ∧ ¬ (v3 + 2) < 0 ∧ ((v3 + 2).toNatClampNeg) < mLn h42 v0) ∧ ((mTg h42 v2 = 12) ∧ (Ek 134 0 [some (.ref v2), some (.int (mI h42 v0 ((v3 + 1).toNatClampNeg))), some (.int (mI h42 v0 ((v3 + 2).toNatClampNeg)))] [] h42 (fun r h47 => ∃ x48 : Int32, r = some (.int x48) ∧ ((x43 = x48 → (Ek 146 38 [some (.ref v0), some (.ref v1), some (.ref v2), some (.int (v3 + 5))] [] h47 K)) ∧ (¬ x43 = x48 → (K (some (.int 0)) h47)))))))))))))) ∧ (((mI h v0 (v3.toNatClampNeg)) &&& 15) = 4 → (((mTg h v0 = 20 ∨ mTg h v0 = 30) ∧ ¬ (v3 + 1) < 0 ∧ ((v3 + 1).toNatClampNeg) < mLn h v0) ∧ (((mTg h v0 = 20 ∨ mTg h v0 = 30) ∧ ¬ (v3 + 2) < 0 ∧ ((v3 + 2).toNatClampNeg) < mLn h v0) ∧ ((mTg h v1 = 11) ∧ (Ek 68 0 [some (.ref v1), some (.int (mI h v0 ((v3 + 1).toNatClampNeg))), some (.int (mI h v0 ((v3 + 2).toNatClampNeg)))] [] h (fun r h53 => ∃ x54 : Int32, r = some (.int x54) ∧ (((mTg h53 v0 = 20 ∨ mTg h53 v0 = 30) ∧ ¬ (v3 + 1) < 0 ∧ ((v3 + 1).toNatClampNeg) < mLn h53 v0) ∧ (((mTg h53 v0 = 20 ∨ mTg h53 v0 = 30) ∧ ¬ (v3 + 2) < 0 ∧ ((v3 + 2).toNatClampNeg) < mLn h53 v0) ∧ ((mTg h53 v2 = 12) ∧ (Ek 135 0 [some (.ref v2), some (.int (mI h53 v0 ((v3 + 1).toNatClampNeg))), some (.int (mI h53 v0 ((v3 + 2).toNatClampNeg)))] [] h53 (fun r h58 => ∃ x59 : Int32, r = some (.int x59) ∧ ((x54 = x59 → (Ek 146 38 [some (.ref v0), some (.ref v1), some (.ref v2), some (.int (v3 + 5))] [] h58 K)) ∧ (¬ x54 = x59 → (K (some (.int 0)) h58)))))))))))))) ∧ (((mI h v0 (v3.toNatClampNeg)) &&& 15) = 5 → (((mTg h v0 = 20 ∨ mTg h v0 = 30) ∧ ¬ (v3 + 1) < 0 ∧ ((v3 + 1).toNatClampNeg) < mLn h v0) ∧ ((mTg h v1 = 11) ∧ (Ek 69 0 [some (.ref v1), some (.int (mI h v0 ((v3 + 1).toNatClampNeg))), none] [] h (fun r h63 => ∃ x64 : Int32, r = some (.int x64) ∧ (((mTg h63 v0 = 20 ∨ mTg h63 v0 = 30) ∧ ¬ (v3 + 1) < 0 ∧ ((v3 + 1).toNatClampNeg) < mLn h63 v0) ∧ ((mTg h63 v2 = 12) ∧ (Ek 96 0 [some (.ref v2), some (.int (mI h63 v0 ((v3 + 1).toNatClampNeg))), none] [] h63 (fun r h67 => ∃ x68 : Int32, r = some (.int x68) ∧ ((x64 = x68 → (Ek 146 38 [some (.ref v0), some (.ref v1), some (.ref v2), some (.int (v3 + 5))] [] h67 K)) ∧ (¬ x64 = x68 → (K (some (.int 0)) h67)))))))))))) ∧ (((mI h v0 (v3.toNatClampNeg)) &&& 15) = 6 → (((mTg h v0 = 20 ∨ mTg h v0 = 30) ∧ ¬ (v3 + 1) < 0 ∧ ((v3 + 1).toNatClampNeg) < mLn h v0) ∧ ((mTg h v1 = 11) ∧ (Ek 79 0 [some (.ref v1), some (.int (mI h v0 ((v3 + 1).toNatClampNeg))), none, none, none, none] [] h (fun r h72 => ∃ x73 : Int32, r = some (.int x73) ∧ (((mTg h72 v0 = 20 ∨ mTg h72 v0 = 30) ∧ ¬ (v3 + 1) < 0 ∧ ((v3 + 1).toNatClampNeg) < mLn h72 v0) ∧ ((mTg h72 v2 = 12) ∧ (Ek 136 0 [some (.ref v2), some (.int (mI h72 v0 ((v3 + 1).toNatClampNeg))), none, none, none, none, none, none] [] h72 (fun r h76 => ∃ x77 : Int32, r = some (.int x77) ∧ ((x73 = x77 → (Ek 146 38 [some (.ref v0), some (.ref v1), some (.ref v2), some (.int (v3 + 5))] [] h76 K)) ∧ (¬ x73 = x77 → (K (some (.int 0)) h76)))))))))))) ∧ (((mI h v0 (v3.toNatClampNeg)) &&& 15) = 7 → (((mTg h v0 = 20 ∨ mTg h v0 = 30) ∧ ¬ (v3 + 1) < 0 ∧ ((v3 + 1).toNatClampNeg) < mLn h v0) ∧ (((mTg h v0 = 20 ∨ mTg h v0 = 30) ∧ ¬ (v3 + 2) < 0 ∧ ((v3 + 2).toNatClampNeg) < mLn h v0) ∧ ((mTg h v1 = 11) ∧ (Ek 81 0 [some (.ref v1), some (.int (mI h v0 ((v3 + 1).toNatClampNeg))), some (.int (mI h v0 ((v3 + 2).toNatClampNeg))), none] [] h (fun r h82 => ∃ x83 : Int32, r = some (.int x83) ∧ (((mTg h82 v0 = 20 ∨ mTg h82 v0 = 30) ∧ ¬ (v3 + 1) < 0 ∧ ((v3 + 1).toNatClampNeg) < mLn h82 v0) ∧ (((mTg h82 v0 = 20 ∨ mTg h82 v0 = 30) ∧ ¬ (v3 + 2) < 0 ∧ ((v3 + 2).toNatClampNeg) < mLn h82 v0) ∧ ((mTg h82 v2 = 12) ∧ (Ek 137 0 [some (.ref v2), some (.int (mI h82 v0 ((v3 + 1).toNatClampNeg))), some (.int (mI h82 v0 ((v3 + 2).toNatClampNeg)))] [] h82 (fun r h87 => ∃ x88 : Int32, r = some (.int x88) ∧ ((x83 = x88 → (Ek 146 38 [some (.ref v0), some (.ref v1), some (.ref v2), some (.int (v3 + 5))] [] h87 K)) ∧ (¬ x83 = x88 → (K (some (.int 0)) h87)))))))))))))) ∧ (((mI h v0 (v3.toNatClampNeg)) &&& 15) = 8 → (((mTg h v0 = 20 ∨ mTg h v0 = 30) ∧ ¬ (v3 + 1) < 0 ∧ ((v3 + 1).toNatClampNeg) < mLn h v0) ∧ (((mTg h v0 = 20 ∨ mTg h v0 = 30) ∧ ¬ (v3 + 2) < 0 ∧ ((v3 + 2).toNatClampNeg) < mLn h v0) ∧ (((mTg h v0 = 20 ∨ mTg h v0 = 30) ∧ ¬ (v3 + 3) < 0 ∧ ((v3 + 3).toNatClampNeg) < mLn h v0) ∧ (((mTg h v0 = 20 ∨ mTg h v0 = 30) ∧ ¬ (v3 + 4) < 0 ∧ ((v3 + 4).toNatClampNeg) < mLn h v0) ∧ ((mTg h v1 = 11) ∧ (Ek 82 0 [some (.ref v1), some (.int (mI h v0 ((v3 + 1).toNatClampNeg))), some (.int (mI h v0 ((v3 + 2).toNatClampNeg))), some (.int (mI h v0 ((v3 + 3).toNatClampNeg))), some (.int (mI h v0 ((v3 + 4).toNatClampNeg))), none] [] h (fun r h95 => ∃ x96 : Int32, r = some (.int x96) ∧ (((mTg h95 v0 = 20 ∨ mTg h95 v0 = 30) ∧ ¬ (v3 + 1) < 0 ∧ ((v3 + 1).toNatClampNeg) < mLn h95 v0) ∧ (((mTg h95 v0 = 20 ∨ mTg h95 v0 = 30) ∧ ¬ (v3 + 2) < 0 ∧ ((v3 + 2).toNatClampNeg) < mLn h95 v0) ∧ (((mTg h95 v0 = 20 ∨ mTg h95 v0 = 30) ∧ ¬ (v3 + 3) < 0 ∧ ((v3 + 3).toNatClampNeg) < mLn h95 v0) ∧ (((mTg h95 v0 = 20 ∨ mTg h95 v0 = 30) ∧ ¬ (v3 + 4) < 0 ∧ ((v3 + 4).toNatClampNeg) < mLn h95 v0) ∧ ((mTg h95 v2 = 12) ∧ (Ek 138 0 [some (.ref v2), some (.int (mI h95 v0 ((v3 + 1).toNatClampNeg))), some (.int (mI h95 v0 ((v3 + 2).toNatClampNeg))), some (.int (mI h95 v0 ((v3 + 3).toNatClampNeg))), some (.int (mI h95 v0 ((v3 + 4).toNatClampNeg))), none] [] h95 (fun r h102 => ∃ x103 : Int32, r = some (.int x103) ∧ ((x96 = x103 → (Ek 146 38 [some (.ref v0), some (.ref v1), some (.ref v2), some (.int (v3 + 5))] [] h102 K)) ∧ (¬ x96 = x103 → (K (some (.int 0)) h102)))))))))))))))))) ∧ (((mI h v0 (v3.toNatClampNeg)) &&& 15) = 9 → (((mTg h v0 = 20 ∨ mTg h v0 = 30) ∧ ¬ (v3 + 1) < 0 ∧ ((v3 + 1).toNatClampNeg) < mLn h v0) ∧ (((mTg h v0 = 20 ∨ mTg h v0 = 30) ∧ ¬ (v3 + 2) < 0 ∧ ((v3 + 2).toNatClampNeg) < mLn h v0) ∧ (((mTg h v0 = 20 ∨ mTg h v0 = 30) ∧ ¬ (v3 + 3) < 0 ∧ ((v3 + 3).toNatClampNeg) < mLn h v0) ∧ ((mTg h v1 = 11) ∧ (Ek 83 0 [some (.ref v1), some (.int (mI h v0 ((v3 + 1).toNatClampNeg))), some (.int (mI h v0 ((v3 + 2).toNatClampNeg))), some (.int (mI h v0 ((v3 + 3).toNatClampNeg))), none] [] h (fun r h109 => ∃ x110 : Int32, r = some (.int x110) ∧ (((mTg h109 v0 = 20 ∨ mTg h109 v0 = 30) ∧ ¬ (v3 + 1) < 0 ∧ ((v3 + 1).toNatClampNeg) < mLn h109 v0) ∧ (((mTg h109 v0 = 20 ∨ mTg h109 v0 = 30) ∧ ¬ (v3 + 2) < 0 ∧ ((v3 + 2).toNatClampNeg) < mLn h109 v0) ∧ (((mTg h109 v0 = 20 ∨ mTg h109 v0 = 30) ∧ ¬ (v3 + 3) < 0 ∧ ((v3 + 3).toNatClampNeg) < mLn h109 v0) ∧ ((mTg h109 v2 = 12) ∧ (Ek 139 0 [some (.ref v2), some (.int (mI h109 v0 ((v3 + 1).toNatClampNeg))), some (.int (mI h109 v0 ((v3 + 2).toNatClampNeg))), some (.int (mI h109 v0 ((v3 + 3).toNatClampNeg))), none] [] h109 (fun r h115 => ∃ x116 : Int32, r = some (.int x116) ∧ ((x110 = x116 → (Ek 146 38 [some (.ref v0), some (.ref v1), some (.ref v2), some (.int (v3 + 5))] [] h115 K)) ∧ (¬ x110 = x116 → (K (some (.int 0)) h115)))))))))))))))) ∧ (((mI h v0 (v3.toNatClampNeg)) &&& 15) = 10 → (((mTg h v0 = 20 ∨ mTg h v0 = 30) ∧ ¬ (v3 + 1) < 0 ∧ ((v3 + 1).toNatClampNeg) < mLn h v0) ∧ ((mTg h v1 = 11) ∧ (Ek 85 0 [some (.ref v1), some (.int (mI h v0 ((v3 + 1).toNatClampNeg))), none, none, none] [] h (fun r h120 => ∃ x121 : Int32, r = some (.int x121) ∧ (((mTg h120 v0 = 20 ∨ mTg h120 v0 = 30) ∧ ¬ (v3 + 1) < 0 ∧ ((v3 + 1).toNatClampNeg) < mLn h120 v0) ∧ ((mTg h120 v2 = 12) ∧ (Ek 140 0 [some (.ref v2), some (.int (mI h120 v0 ((v3 + 1).toNatClampNeg))), none, none, none] [] h120 (fun r h124 => ∃ x125 : Int32, r = some (.int x125) ∧ ((x121 = x125 → (Ek 146 38 [some (.ref v0), some (.ref v1), some (.ref v2), some (.int (v3 + 5))] [] h124 K)) ∧ (¬ x121 = x125 → (K (some (.int 0)) h124)))))))))))) ∧ (((mI h v0 (v3.toNatClampNeg)) &&& 15) = 11 → (((mTg h v0 = 20 ∨ mTg h v0 = 30) ∧ ¬ (v3 + 1) < 0 ∧ ((v3 + 1).toNatClampNeg) < mLn h v0) ∧ (((mTg h v0 = 20 ∨ mTg h v0 = 30) ∧ ¬ (v3 + 2) < 0 ∧ ((v3 + 2).toNatClampNeg) < mLn h v0) ∧ ((mTg h v1 = 11) ∧ (Ek 86 0 [some (.ref v1), some (.int (mI h v0 ((v3 + 1).toNatClampNeg))), some (.int (mI h v0 ((v3 + 2).toNatClampNeg)))] [] h (fun r h130 => ∃ x131 : Int32, r = some (.int x131) ∧ (((mTg h130 v0 = 20 ∨ mTg h130 v0 = 30) ∧ ¬ (v3 + 1) < 0 ∧ ((v3 + 1).toNatClampNeg) < mLn h130 v0) ∧ (((mTg h130 v0 = 20 ∨ mTg h130 v0 = 30) ∧ ¬ (v3 + 2) < 0 ∧ ((v3 + 2).toNatClampNeg) < mLn h130 v0) ∧ ((mTg h130 v2 = 12) ∧ (Ek 141 0 [some (.ref v2), some (.int (mI h130 v0 ((v3 + 1).toNatClampNeg))), some (.int (mI h130 v0 ((v3 + 2).toNatClampNeg)))] [] h130 (fun r h135 => ∃ x136 : Int32, r = some (.int x136) ∧ ((x131 = x136 → (Ek 146 38 [some (.ref v0), some (.ref v1), some (.ref v2), some (.int (v3 + 5))] [] h135 K)) ∧ (¬ x131 = x136 → (K (some (.int 0)) h135)))))))))))))) ∧ (((mI h v0 (v3.toNatClampNeg)) &&& 15) = 12 → (((mTg h v0 = 20 ∨ mTg h v0 = 30) ∧ ¬ (v3 + 1) < 0 ∧ ((v3 + 1).toNatClampNeg) < mLn h v0) ∧ ((mTg h v1 = 11) ∧ (Ek 87 0 [some (.ref v1), some (.int (mI h v0 ((v3 + 1).toNatClampNeg)))] [] h (fun r h140 => ∃ x141 : Int32, r = some (.int x141) ∧ (((mTg h140 v0 = 20 ∨ mTg h140 v0 = 30) ∧ ¬ (v3 + 1) < 0 ∧ ((v3 + 1).toNatClampNeg) < mLn h140 v0) ∧ ((mTg h140 v2 = 12) ∧ (Ek 142 0 [some (.ref v2), some (.int (mI h140 v0 ((v3 + 1).toNatClampNeg))), none, none] [] h140 (fun r h144 => ∃ x145 : Int32, r = some (.int x145) ∧ ((x141 = x145 → (Ek 146 38 [some (.ref v0), some (.ref v1), some (.ref v2), some (.int (v3 + 5))] [] h144 K)) ∧ (¬ x141 = x145 → (K (some (.int 0)) h144)))))))))))) ∧ (((mI h v0 (v3.toNatClampNeg)) &&& 15) = 13 → (((mTg h v0 = 20 ∨ mTg h v0 = 30) ∧ ¬ (v3 + 1) < 0 ∧ ((v3 + 1).toNatClampNeg) < mLn h v0) ∧ ((mTg h v1 = 11) ∧ (Ek 88 0 [some (.ref v1), some (.int (mI h v0 ((v3 + 1).toNatClampNeg)))] [] h (fun r h149 => ∃ x150 : Int32, r = some (.int x150) ∧ (((mTg h149 v0 = 20 ∨ mTg h149 v0 = 30) ∧ ¬ (v3 + 1) < 0 ∧ ((v3 + 1).toNatClampNeg) < mLn h149 v0) ∧ ((mTg h149 v2 = 12) ∧ (Ek 143 0 [some (.ref v2), some (.int (mI h149 v0 ((v3 + 1).toNatClampNeg))), none, none, none] [] h149 (fun r h153 => ∃ x154 : Int32, r = some (.int x154) ∧ ((x150 = x154 → (Ek 146 38 [some (.ref v0), some (.ref v1), some (.ref v2), some (.int (v3 + 5))] [] h153 K)) ∧ (¬ x150 = x154 → (K (some (.int 0)) h153)))))))))))) ∧ (((mI h v0 (v3.toNatClampNeg)) &&& 15) = 14 → (((mTg h v0 = 20 ∨ mTg h v0 = 30) ∧ ¬ (v3 + 1) < 0 ∧ ((v3 + 1).toNatClampNeg) < mLn h v0) ∧ (((mTg h v0 = 20 ∨ mTg h v0 = 30) ∧ ¬ (v3 + 2) < 0 ∧ ((v3 + 2).toNatClampNeg) < mLn h v0) ∧ ((mTg h v1 = 11) ∧ (Ek 90 0 [some (.ref v1), some (.int (mI h v0 ((v3 + 1).toNatClampNeg))), some (.int (mI h v0 ((v3 + 2).toNatClampNeg)))] [] h (fun r h159 => ∃ x160 : Int32, r = some (.int x160) ∧ (((mTg h159 v0 = 20 ∨ mTg h159 v0 = 30) ∧ ¬ (v3 + 1) < 0 ∧ ((v3 + 1).toNatClampNeg) < mLn h159 v0) ∧ (((mTg h159 v0 = 20 ∨ mTg h159 v0 = 30) ∧ ¬ (v3 + 2) < 0 ∧ ((v3 + 2).toNatClampNeg) < mLn h159 v0) ∧ ((mTg h159 v2 = 12) ∧ (Ek 144 0 [some (.ref v2), some (.int (mI h159 v0 ((v3 + 1).toNatClampNeg))), some (.int (mI h159 v0 ((v3 + 2).toNatClampNeg)))] [] h159 (fun r h164 => ∃ x165 : Int32, r = some (.int x165) ∧ ((x160 = x165 → (Ek 146 38 [some (.ref v0), some (.ref v1), some (.ref v2), some (.int (v3 + 5))] [] h164 K)) ∧ (¬ x160 = x165 → (K (some (.int 0)) h164)))))))))))))) ∧ (¬ ((mI h v0 (v3.toNatClampNeg)) &&& 15) = 0 → ((¬ ((mI h v0 (v3.toNatClampNeg)) &&& 15) = 1 → ((¬ ((mI h v0 (v3.toNatClampNeg)) &&& 15) = 2 → ((¬ ((mI h v0 (v3.toNatClampNeg)) &&& 15) = 3 → ((¬ ((mI h v0 (v3.toNatClampNeg)) &&& 15) = 4 → ((¬ ((mI h v0 (v3.toNatClampNeg)) &&& 15) = 5 → ((¬ ((mI h v0 (v3.toNatClampNeg)) &&& 15) = 6 → ((¬ ((mI h v0 (v3.toNatClampNeg)) &&& 15) = 7 → ((¬ ((mI h v0 (v3.toNatClampNeg)) &&& 15) = 8 → ((¬ ((mI h v0 (v3.toNatClampNeg)) &&& 15) = 9 → ((¬ ((mI h v0 (v3.toNatClampNeg)) &&& 15) = 10 → ((¬ ((mI h v0 (v3.toNatClampNeg)) &&& 15) = 11 → ((¬ ((mI h v0 (v3.toNatClampNeg)) &&& 15) = 12 → ((¬ ((mI h v0 (v3.toNatClampNeg)) &&& 15) = 13 → ((¬ ((mI h v0 (v3.toNatClampNeg)) &&& 15) = 14 → (Ek 146 38 [some (.ref v0), some (.ref v1), some (.ref v2), some (.int (v3 + 5))] [] h K))))))))))))))))))))))))))))))))))) : Ek 146 38 [some (.ref v0), some (.ref v1), some (.ref v2), some (.int v3)] [] h K := by
  have c1 := H.1
  refine Ek.chk 3 (fun n => rfl) c1 ?_
  replace H := H.2
  refine Ek.br 3 (fun n => rfl) (fun hc => ?_) (fun hc => ?_)
  · replace H := H.1 hc
    exact Ek.ret 2 (fun n => rfl) H
  · replace H := H.2 hc
    have c2 := H.1
    refine Ek.chk 3 (fun n => rfl) c2 ?_
    replace H := H.2
    refine Ek.go 2 (fun n => rfl) ?_
    by_cases q3 : ((mI h v0 (v3.toNatClampNeg)) &&& 15) = 0
    · replace H := H.1 q3
      rw [q3]
      refine Ek.go 1 (fun n => rfl) ?_
      have c4 := H.1
      refine Ek.chk 6 (fun n => rfl) c4 ?_
      replace H := H.2
      have c5 := H.1
      refine Ek.chk 5 (fun n => rfl) c5 ?_
      replace H := H.2
      have c6 := H.1
      refine Ek.callT 0 (fun n => rfl) c6 ?_
      replace H := H.2
      refine Ek.mono H ?_
      rintro _ h7 ⟨x8, rfl, H⟩
      have c9 := H.1
      refine Ek.chk 6 (fun n => rfl) c9 ?_
      replace H := H.2
      have c10 := H.1
      refine Ek.chk 5 (fun n => rfl) c10 ?_
      replace H := H.2
      have c11 := H.1
      refine Ek.callT 0 (fun n => rfl) c11 ?_
      replace H := H.2
      refine Ek.mono H ?_
      rintro _ h12 ⟨x13, rfl, H⟩
      refine Ek.br 1 (fun n => rfl) (fun hc => ?_) (fun hc => ?_)
      · replace H := H.1 hc
        exact Ek.go 2 (fun n => rfl) H
      · replace H := H.2 hc
        exact Ek.ret 2 (fun n => rfl) H
    replace H := H.2
    by_cases q14 : ((mI h v0 (v3.toNatClampNeg)) &&& 15) = 1
    · replace H := H.1 q14
      rw [q14]
      refine Ek.go 1 (fun n => rfl) ?_
      have c15 := H.1
      refine Ek.chk 6 (fun n => rfl) c15 ?_
      replace H := H.2
      have c16 := H.1
      refine Ek.chk 5 (fun n => rfl) c16 ?_
      replace H := H.2
      have c17 := H.1
      refine Ek.callT 0 (fun n => rfl) c17 ?_
      replace H := H.2
      refine Ek.mono H ?_
      rintro _ h18 ⟨x19, rfl, H⟩
      have c20 := H.1
      refine Ek.chk 6 (fun n => rfl) c20 ?_
      replace H := H.2
      have c21 := H.1
      refine Ek.chk 5 (fun n => rfl) c21 ?_
      replace H := H.2
      have c22 := H.1
      refine Ek.callT 0 (fun n => rfl) c22 ?_
      replace H := H.2
      refine Ek.mono H ?_
      rintro _ h23 ⟨x24, rfl, H⟩
      refine Ek.br 1 (fun n => rfl) (fun hc => ?_) (fun hc => ?_)
      · replace H := H.1 hc
        exact Ek.go 2 (fun n => rfl) H
      · replace H := H.2 hc
        exact Ek.ret 2 (fun n => rfl) H
    replace H := H.2
    by_cases q25 : ((mI h v0 (v3.toNatClampNeg)) &&& 15) = 2
    · replace H := H.1 q25
      rw [q25]
      refine Ek.go 1 (fun n => rfl) ?_
      have c26 := H.1
      refine Ek.chk 6 (fun n => rfl) c26 ?_
      replace H := H.2
      have c27 := H.1
      refine Ek.chk 5 (fun n => rfl) c27 ?_
      replace H := H.2
      have c28 := H.1
      refine Ek.chk 5 (fun n => rfl) c28 ?_
      replace H := H.2
      have c29 := H.1
      refine Ek.callT 0 (fun n => rfl) c29 ?_
      replace H := H.2
      refine Ek.mono H ?_
      rintro _ h30 ⟨x31, rfl, H⟩
      have c32 := H.1
      refine Ek.chk 6 (fun n => rfl) c32 ?_
      replace H := H.2
      have c33 := H.1
      refine Ek.chk 5 (fun n => rfl) c33 ?_
      replace H := H.2
      have c34 := H.1
      refine Ek.chk 5 (fun n => rfl) c34 ?_
      replace H := H.2
      have c35 := H.1
      refine Ek.callT 0 (fun n => rfl) c35 ?_
      replace H := H.2
      refine Ek.mono H ?_
      rintro _ h36 ⟨x37, rfl, H⟩
      refine Ek.br 1 (fun n => rfl) (fun hc => ?_) (fun hc => ?_)
      · replace H := H.1 hc
        exact Ek.go 2 (fun n => rfl) H
      · replace H := H.2 hc
        exact Ek.ret 2 (fun n => rfl) H
    replace H := H.2
    by_cases q38 : ((mI h v0 (v3.toNatClampNeg)) &&& 15) = 3
    · replace H := H.1 q38
      rw [q38]
      refine Ek.go 1 (fun n => rfl) ?_
      have c39 := H.1
      refine Ek.chk 6 (fun n => rfl) c39 ?_
      replace H := H.2
      have c40 := H.1
      refine Ek.chk 5 (fun n => rfl) c40 ?_
      replace H := H.2
      have c41 := H.1
      refine Ek.callT 0 (fun n => rfl) c41 ?_
      replace H := H.2
      refine Ek.mono H ?_
      rintro _ h42 ⟨x43, rfl, H⟩
      have c44 := H.1
      refine Ek.chk 6 (fun n => rfl) c44 ?_
      replace H := H.2
      have c45 := H.1
      refine Ek.chk 5 (fun n => rfl) c45 ?_
      replace H := H.2
      have c46 := H.1
      refine Ek.callT 0 (fun n => rfl) c46 ?_
      replace H := H.2
      refine Ek.mono H ?_
      rintro _ h47 ⟨x48, rfl, H⟩
      refine Ek.br 1 (fun n => rfl) (fun hc => ?_) (fun hc => ?_)
      · replace H := H.1 hc
        exact Ek.go 2 (fun n => rfl) H
      · replace H := H.2 hc
        exact Ek.ret 2 (fun n => rfl) H
    replace H := H.2
    by_cases q49 : ((mI h v0 (v3.toNatClampNeg)) &&& 15) = 4
    · replace H := H.1 q49
      rw [q49]
      refine Ek.go 1 (fun n => rfl) ?_
      have c50 := H.1
      refine Ek.chk 6 (fun n => rfl) c50 ?_
      replace H := H.2
      have c51 := H.1
      refine Ek.chk 5 (fun n => rfl) c51 ?_
      replace H := H.2
      have c52 := H.1
      refine Ek.callT 0 (fun n => rfl) c52 ?_
      replace H := H.2
      refine Ek.mono H ?_
      rintro _ h53 ⟨x54, rfl, H⟩
      have c55 := H.1
      refine Ek.chk 6 (fun n => rfl) c55 ?_
      replace H := H.2
      have c56 := H.1
      refine Ek.chk 5 (fun n => rfl) c56 ?_
      replace H := H.2
      have c57 := H.1
      refine Ek.callT 0 (fun n => rfl) c57 ?_
      replace H := H.2
      refine Ek.mono H ?_
      rintro _ h58 ⟨x59, rfl, H⟩
      refine Ek.br 1 (fun n => rfl) (fun hc => ?_) (fun hc => ?_)
      · replace H := H.1 hc
        exact Ek.go 2 (fun n => rfl) H
      · replace H := H.2 hc
        exact Ek.ret 2 (fun n => rfl) H
    replace H := H.2
    by_cases q60 : ((mI h v0 (v3.toNatClampNeg)) &&& 15) = 5
    · replace H := H.1 q60
      rw [q60]
      refine Ek.go 1 (fun n => rfl) ?_
      have c61 := H.1
      refine Ek.chk 6 (fun n => rfl) c61 ?_
      replace H := H.2
      have c62 := H.1
      refine Ek.callT 0 (fun n => rfl) c62 ?_
      replace H := H.2
      refine Ek.mono H ?_
      rintro _ h63 ⟨x64, rfl, H⟩
      have c65 := H.1
      refine Ek.chk 6 (fun n => rfl) c65 ?_
      replace H := H.2
      have c66 := H.1
      refine Ek.callT 0 (fun n => rfl) c66 ?_
      replace H := H.2
      refine Ek.mono H ?_
      rintro _ h67 ⟨x68, rfl, H⟩
      refine Ek.br 1 (fun n => rfl) (fun hc => ?_) (fun hc => ?_)
      · replace H := H.1 hc
        exact Ek.go 2 (fun n => rfl) H
      · replace H := H.2 hc
        exact Ek.ret 2 (fun n => rfl) H
    replace H := H.2
    by_cases q69 : ((mI h v0 (v3.toNatClampNeg)) &&& 15) = 6
    · replace H := H.1 q69
      rw [q69]
      refine Ek.go 1 (fun n => rfl) ?_
      have c70 := H.1
      refine Ek.chk 6 (fun n => rfl) c70 ?_
      replace H := H.2
      have c71 := H.1
      refine Ek.callT 0 (fun n => rfl) c71 ?_
      replace H := H.2
      refine Ek.mono H ?_
      rintro _ h72 ⟨x73, rfl, H⟩
      have c74 := H.1
      refine Ek.chk 6 (fun n => rfl) c74 ?_
      replace H := H.2
      have c75 := H.1
      refine Ek.callT 0 (fun n => rfl) c75 ?_
      replace H := H.2
      refine Ek.mono H ?_
      rintro _ h76 ⟨x77, rfl, H⟩
      refine Ek.br 1 (fun n => rfl) (fun hc => ?_) (fun hc => ?_)
      · replace H := H.1 hc
        exact Ek.go 2 (fun n => rfl) H
      · replace H := H.2 hc
        exact Ek.ret 2 (fun n => rfl) H
    replace H := H.2
    by_cases q78 : ((mI h v0 (v3.toNatClampNeg)) &&& 15) = 7
    · replace H := H.1 q78
      rw [q78]
      refine Ek.go 1 (fun n => rfl) ?_
      have c79 := H.1
      refine Ek.chk 6 (fun n => rfl) c79 ?_
      replace H := H.2
      have c80 := H.1
      refine Ek.chk 5 (fun n => rfl) c80 ?_
      replace H := H.2
      have c81 := H.1
      refine Ek.callT 0 (fun n => rfl) c81 ?_
      replace H := H.2
      refine Ek.mono H ?_
      rintro _ h82 ⟨x83, rfl, H⟩
      have c84 := H.1
      refine Ek.chk 6 (fun n => rfl) c84 ?_
      replace H := H.2
      have c85 := H.1
      refine Ek.chk 5 (fun n => rfl) c85 ?_
      replace H := H.2
      have c86 := H.1
      refine Ek.callT 0 (fun n => rfl) c86 ?_
      replace H := H.2
      refine Ek.mono H ?_
      rintro _ h87 ⟨x88, rfl, H⟩
      refine Ek.br 1 (fun n => rfl) (fun hc => ?_) (fun hc => ?_)
      · replace H := H.1 hc
        exact Ek.go 2 (fun n => rfl) H
      · replace H := H.2 hc
        exact Ek.ret 2 (fun n => rfl) H
    replace H := H.2
    by_cases q89 : ((mI h v0 (v3.toNatClampNeg)) &&& 15) = 8
    · replace H := H.1 q89
      rw [q89]
      refine Ek.go 1 (fun n => rfl) ?_
      have c90 := H.1
      refine Ek.chk 6 (fun n => rfl) c90 ?_
      replace H := H.2
      have c91 := H.1
      refine Ek.chk 5 (fun n => rfl) c91 ?_
      replace H := H.2
      have c92 := H.1
      refine Ek.chk 5 (fun n => rfl) c92 ?_
      replace H := H.2
      have c93 := H.1
      refine Ek.chk 5 (fun n => rfl) c93 ?_
      replace H := H.2
      have c94 := H.1
      refine Ek.callT 0 (fun n => rfl) c94 ?_
      replace H := H.2
      refine Ek.mono H ?_
      rintro _ h95 ⟨x96, rfl, H⟩
      have c97 := H.1
      refine Ek.chk 6 (fun n => rfl) c97 ?_
      replace H := H.2
      have c98 := H.1
      refine Ek.chk 5 (fun n => rfl) c98 ?_
      replace H := H.2
      have c99 := H.1
      refine Ek.chk 5 (fun n => rfl) c99 ?_
      replace H := H.2
      have c100 := H.1
      refine Ek.chk 5 (fun n => rfl) c100 ?_
      replace H := H.2
      have c101 := H.1
      refine Ek.callT 0 (fun n => rfl) c101 ?_
      replace H := H.2
      refine Ek.mono H ?_
      rintro _ h102 ⟨x103, rfl, H⟩
      refine Ek.br 1 (fun n => rfl) (fun hc => ?_) (fun hc => ?_)
      · replace H := H.1 hc
        exact Ek.go 2 (fun n => rfl) H
      · replace H := H.2 hc
        exact Ek.ret 2 (fun n => rfl) H
    replace H := H.2
    by_cases q104 : ((mI h v0 (v3.toNatClampNeg)) &&& 15) = 9
    · replace H := H.1 q104
      rw [q104]
      refine Ek.go 1 (fun n => rfl) ?_
      have c105 := H.1
      refine Ek.chk 6 (fun n => rfl) c105 ?_
      replace H := H.2
      have c106 := H.1
      refine Ek.chk 5 (fun n => rfl) c106 ?_
      replace H := H.2
      have c107 := H.1
      refine Ek.chk 5 (fun n => rfl) c107 ?_
      replace H := H.2
      have c108 := H.1
      refine Ek.callT 0 (fun n => rfl) c108 ?_
      replace H := H.2
      refine Ek.mono H ?_
      rintro _ h109 ⟨x110, rfl, H⟩
      have c111 := H.1
      refine Ek.chk 6 (fun n => rfl) c111 ?_
      replace H := H.2
      have c112 := H.1
      refine Ek.chk 5 (fun n => rfl) c112 ?_
      replace H := H.2
      have c113 := H.1
      refine Ek.chk 5 (fun n => rfl) c113 ?_
      replace H := H.2
      have c114 := H.1
      refine Ek.callT 0 (fun n => rfl) c114 ?_
      replace H := H.2
      refine Ek.mono H ?_
      rintro _ h115 ⟨x116, rfl, H⟩
      refine Ek.br 1 (fun n => rfl) (fun hc => ?_) (fun hc => ?_)
      · replace H := H.1 hc
        exact Ek.go 2 (fun n => rfl) H
      · replace H := H.2 hc
        exact Ek.ret 2 (fun n => rfl) H
    replace H := H.2
    by_cases q117 : ((mI h v0 (v3.toNatClampNeg)) &&& 15) = 10
    · replace H := H.1 q117
      rw [q117]
      refine Ek.go 1 (fun n => rfl) ?_
      have c118 := H.1
      refine Ek.chk 6 (fun n => rfl) c118 ?_
      replace H := H.2
      have c119 := H.1
      refine Ek.callT 0 (fun n => rfl) c119 ?_
      replace H := H.2
      refine Ek.mono H ?_
      rintro _ h120 ⟨x121, rfl, H⟩
      have c122 := H.1
      refine Ek.chk 6 (fun n => rfl) c122 ?_
      replace H := H.2
      have c123 := H.1
      refine Ek.callT 0 (fun n => rfl) c123 ?_
      replace H := H.2
      refine Ek.mono H ?_
      rintro _ h124 ⟨x125, rfl, H⟩
      refine Ek.br 1 (fun n => rfl) (fun hc => ?_) (fun hc => ?_)
      · replace H := H.1 hc
        exact Ek.go 2 (fun n => rfl) H
      · replace H := H.2 hc
        exact Ek.ret 2 (fun n => rfl) H
    replace H := H.2
    by_cases q126 : ((mI h v0 (v3.toNatClampNeg)) &&& 15) = 11
    · replace H := H.1 q126
      rw [q126]
      refine Ek.go 1 (fun n => rfl) ?_
      have c127 := H.1
      refine Ek.chk 6 (fun n => rfl) c127 ?_
      replace H := H.2
      have c128 := H.1
      refine Ek.chk 5 (fun n => rfl) c128 ?_
      replace H := H.2
      have c129 := H.1
      refine Ek.callT 0 (fun n => rfl) c129 ?_
      replace H := H.2
      refine Ek.mono H ?_
      rintro _ h130 ⟨x131, rfl, H⟩
      have c132 := H.1
      refine Ek.chk 6 (fun n => rfl) c132 ?_
      replace H := H.2
      have c133 := H.1
      refine Ek.chk 5 (fun n => rfl) c133 ?_
      replace H := H.2
      have c134 := H.1
      refine Ek.callT 0 (fun n => rfl) c134 ?_
      replace H := H.2
      refine Ek.mono H ?_
      rintro _ h135 ⟨x136, rfl, H⟩
      refine Ek.br 1 (fun n => rfl) (fun hc => ?_) (fun hc => ?_)
      · replace H := H.1 hc
        exact Ek.go 2 (fun n => rfl) H
      · replace H := H.2 hc
        exact Ek.ret 2 (fun n => rfl) H
    replace H := H.2
    by_cases q137 : ((mI h v0 (v3.toNatClampNeg)) &&& 15) = 12
    · replace H := H.1 q137
      rw [q137]
      refine Ek.go 1 (fun n => rfl) ?_
      have c138 := H.1
      refine Ek.chk 6 (fun n => rfl) c138 ?_
      replace H := H.2
      have c139 := H.1
      refine Ek.callT 0 (fun n => rfl) c139 ?_
      replace H := H.2
      refine Ek.mono H ?_
      rintro _ h140 ⟨x141, rfl, H⟩
      have c142 := H.1
      refine Ek.chk 6 (fun n => rfl) c142 ?_
      replace H := H.2
      have c143 := H.1
      refine Ek.callT 0 (fun n => rfl) c143 ?_
      replace H := H.2
      refine Ek.mono H ?_
      rintro _ h144 ⟨x145, rfl, H⟩
      refine Ek.br 1 (fun n => rfl) (fun hc => ?_) (fun hc => ?_)
      · replace H := H.1 hc
        exact Ek.go 2 (fun n => rfl) H
      · replace H := H.2 hc
        exact Ek.ret 2 (fun n => rfl) H
    replace H := H.2
    by_cases q146 : ((mI h v0 (v3.toNatClampNeg)) &&& 15) = 13
    · replace H := H.1 q146
      rw [q146]
      refine Ek.go 1 (fun n => rfl) ?_
      have c147 := H.1
      refine Ek.chk 6 (fun n => rfl) c147 ?_
      replace H := H.2
      have c148 := H.1
      refine Ek.callT 0 (fun n => rfl) c148 ?_
      replace H := H.2
      refine Ek.mono H ?_
      rintro _ h149 ⟨x150, rfl, H⟩
      have c151 := H.1
      refine Ek.chk 6 (fun n => rfl) c151 ?_
      replace H := H.2
      have c152 := H.1
      refine Ek.callT 0 (fun n => rfl) c152 ?_
      replace H := H.2
      refine Ek.mono H ?_
      rintro _ h153 ⟨x154, rfl, H⟩
      refine Ek.br 1 (fun n => rfl) (fun hc => ?_) (fun hc => ?_)
      · replace H := H.1 hc
        exact Ek.go 2 (fun n => rfl) H
      · replace H := H.2 hc
        exact Ek.ret 2 (fun n => rfl) H
    replace H := H.2
    by_cases q155 : ((mI h v0 (v3.toNatClampNeg)) &&& 15) = 14
    · replace H := H.1 q155
      rw [q155]
      refine Ek.go 1 (fun n => rfl) ?_
      have c156 := H.1
      refine Ek.chk 6 (fun n => rfl) c156 ?_
      replace H := H.2
      have c157 := H.1
      refine Ek.chk 5 (fun n => rfl) c157 ?_
      replace H := H.2
      have c158 := H.1
      refine Ek.callT 0 (fun n => rfl) c158 ?_
      replace H := H.2
      refine Ek.mono H ?_
      rintro _ h159 ⟨x160, rfl, H⟩
      have c161 := H.1
      refine Ek.chk 6 (fun n => rfl) c161 ?_
      replace H := H.2
      have c162 := H.1
      refine Ek.chk 5 (fun n => rfl) c162 ?_
      replace H := H.2
      have c163 := H.1
      refine Ek.callT 0 (fun n => rfl) c163 ?_
      replace H := H.2
      refine Ek.mono H ?_
      rintro _ h164 ⟨x165, rfl, H⟩
      refine Ek.br 1 (fun n => rfl) (fun hc => ?_) (fun hc => ?_)
      · replace H := H.1 hc
        exact Ek.go 2 (fun n => rfl) H
      · replace H := H.2 hc
        exact Ek.ret 2 (fun n => rfl) H
    replace H := H.2
    replace H := H q3
    replace H := H q14
    replace H := H q25
    replace H := H q38
    replace H := H q49
    replace H := H q60
    replace H := H q69
    replace H := H q78
    replace H := H q89
    replace H := H q104
    replace H := H q117
    replace H := H q126
    replace H := H q137
    replace H := H q146
    replace H := H q155
    have hs : ((mI h v0 (v3.toNatClampNeg)) &&& 15) < 0 ∨ 15 ≤ (((mI h v0 (v3.toNatClampNeg)) &&& 15)).toNatClampNeg := mSwOut (by decide) (fun j hj => match j, hj with
      | 0, _ => q3
      | 1, _ => q14
      | 2, _ => q25
      | 3, _ => q38
      | 4, _ => q49
      | 5, _ => q60
      | 6, _ => q69
      | 7, _ => q78
      | 8, _ => q89
      | 9, _ => q104
      | 10, _ => q117
      | 11, _ => q126
      | 12, _ => q137
      | 13, _ => q146
      | 14, _ => q155
      | j + 15, hj => absurd hj (by omega))
    refine Ek.br 1 (fun n => rfl) (fun _ => ?_) (fun hq => absurd hs hq)
    exact Ek.go 2 (fun n => rfl) H

